section ZY
variable {Z : zZ} {R R' : Room} {k n : Nat} {Q Q' : zO → zH → Prop} {ls ls' st st' As rest : List Value} {h : zH} {a b r rv j N : Nat} {fs vs : List Value} {v : Value} {x y i : Int32}
/-! X6_init -/
def bX6_init_0 : zB := [(0, .aload_n 0, 1, nI 0)]
theorem bX6_init_0_ok : z_ok cX6_init 0 bX6_init_0 1 = true := by decide +kernel
theorem iX6_init_0 (hr : z_run 1 bX6_init_0 ls st = some (ls', st')) (g : z_J Z mX6_init R k n Q 1 ls' st' h) : z_J Z mX6_init R k n Q 0 ls st h := z_jr bX6_init_0 bX6_init_0_ok hr g
theorem dX6_init_1 : decode cX6_init 1 = .ok (.invokespecial 1, 3) := by decide +kernel
theorem iX6_init_1 (hst : (st.map fun v => v.category).sum + 12 ≤ R.locals) (hf : 1 ≤ R.frames) (g : z_J Z mX6_init R k n Q 4 ls st h) : z_J Z mX6_init R k n Q 1 ls (.ref a :: st) h := z_objI dX6_init_1 rfl gw720 gw60 gw_objInit hst hf g
def bX6_init_4 : zB := [(4, .aload_n 0, 5, nI 0), (5, .bipush 10, 7, nI 10)]
theorem bX6_init_4_ok : z_ok cX6_init 4 bX6_init_4 7 = true := by decide +kernel
theorem iX6_init_4 (hr : z_run 1 bX6_init_4 ls st = some (ls', st')) (g : z_J Z mX6_init R k n Q 7 ls' st' h) : z_J Z mX6_init R k n Q 4 ls st h := z_jr bX6_init_4 bX6_init_4_ok hr g
theorem dX6_init_7 : decode cX6_init 7 = .ok (.newarray .int, 2) := by decide +kernel
theorem iX6_init_7 (r : Nat) (hi : i = nI N) (hN : N < 1000) (hR : k + 1 ≤ R.cells ∧ n + N ≤ R.slots) (g : ∀ q, z_J Z mX6_init R (k + 1) (n + N) Q 9 ls (.ref q :: st) (z_u h r (q, .inl (0, N, .inl (fun _ => 0))))) : z_J Z mX6_init R k n Q 7 ls (.int i :: st) h := z_newa r (ty := .int) (t := 0) (a0 := (N, .inl (fun _ => 0))) dX6_init_7 rfl rfl (fun _ => rfl) (fun _ q => by cases q) gw122 (fun _ => rfl) hi hN hR (by show N * 4 ≤ 536870912; omega) g
theorem dX6_init_9 : decode cX6_init 9 = .ok (.putfield 7, 3) := by decide +kernel
theorem iX6_init_9 (hh : h r = some (a, .inr (7, fs))) (hl : Nat.blt 2 fs.length = true) (g : z_J Z mX6_init R k n Q 12 ls st (z_u h r (a, .inr (7, fs.set 2 (.ref b))))) : z_J Z mX6_init R k n Q 9 ls ((.ref b) :: .ref a :: st) h := z_putF dX6_init_9 rfl fl_X6_7 fw_X6_2 rfl rfl rfl hh rfl rfl (by simpa [Nat.blt_eq] using hl) g
theorem iX6_init_9N (hh : h r = some (a, .inr (7, fs))) (hl : Nat.blt 2 fs.length = true) (g : z_J Z mX6_init R k n Q 12 ls st (z_u h r (a, .inr (7, fs.set 2 (.null))))) : z_J Z mX6_init R k n Q 9 ls ((.null) :: .ref a :: st) h := z_putF dX6_init_9 rfl fl_X6_7 fw_X6_2 rfl rfl rfl hh rfl rfl (by simpa [Nat.blt_eq] using hl) g
def bX6_init_12 : zB := [(12, .aload_n 0, 13, nI 0), (13, .bipush 10, 15, nI 10)]
theorem bX6_init_12_ok : z_ok cX6_init 12 bX6_init_12 15 = true := by decide +kernel
theorem iX6_init_12 (hr : z_run 1 bX6_init_12 ls st = some (ls', st')) (g : z_J Z mX6_init R k n Q 15 ls' st' h) : z_J Z mX6_init R k n Q 12 ls st h := z_jr bX6_init_12 bX6_init_12_ok hr g
theorem dX6_init_15 : decode cX6_init 15 = .ok (.newarray .int, 2) := by decide +kernel
theorem iX6_init_15 (r : Nat) (hi : i = nI N) (hN : N < 1000) (hR : k + 1 ≤ R.cells ∧ n + N ≤ R.slots) (g : ∀ q, z_J Z mX6_init R (k + 1) (n + N) Q 17 ls (.ref q :: st) (z_u h r (q, .inl (0, N, .inl (fun _ => 0))))) : z_J Z mX6_init R k n Q 15 ls (.int i :: st) h := z_newa r (ty := .int) (t := 0) (a0 := (N, .inl (fun _ => 0))) dX6_init_15 rfl rfl (fun _ => rfl) (fun _ q => by cases q) gw122 (fun _ => rfl) hi hN hR (by show N * 4 ≤ 536870912; omega) g
theorem dX6_init_17 : decode cX6_init 17 = .ok (.putfield 13, 3) := by decide +kernel
theorem iX6_init_17 (hh : h r = some (a, .inr (7, fs))) (hl : Nat.blt 3 fs.length = true) (g : z_J Z mX6_init R k n Q 20 ls st (z_u h r (a, .inr (7, fs.set 3 (.ref b))))) : z_J Z mX6_init R k n Q 17 ls ((.ref b) :: .ref a :: st) h := z_putF dX6_init_17 rfl fl_X6_13 fw_X6_3 rfl rfl rfl hh rfl rfl (by simpa [Nat.blt_eq] using hl) g
theorem iX6_init_17N (hh : h r = some (a, .inr (7, fs))) (hl : Nat.blt 3 fs.length = true) (g : z_J Z mX6_init R k n Q 20 ls st (z_u h r (a, .inr (7, fs.set 3 (.null))))) : z_J Z mX6_init R k n Q 17 ls ((.null) :: .ref a :: st) h := z_putF dX6_init_17 rfl fl_X6_13 fw_X6_3 rfl rfl rfl hh rfl rfl (by simpa [Nat.blt_eq] using hl) g
def bX6_init_20 : zB := [(20, .aload_n 0, 21, nI 0), (21, .bipush 10, 23, nI 10)]
theorem bX6_init_20_ok : z_ok cX6_init 20 bX6_init_20 23 = true := by decide +kernel
theorem iX6_init_20 (hr : z_run 1 bX6_init_20 ls st = some (ls', st')) (g : z_J Z mX6_init R k n Q 23 ls' st' h) : z_J Z mX6_init R k n Q 20 ls st h := z_jr bX6_init_20 bX6_init_20_ok hr g
theorem dX6_init_23 : decode cX6_init 23 = .ok (.newarray .int, 2) := by decide +kernel
theorem iX6_init_23 (r : Nat) (hi : i = nI N) (hN : N < 1000) (hR : k + 1 ≤ R.cells ∧ n + N ≤ R.slots) (g : ∀ q, z_J Z mX6_init R (k + 1) (n + N) Q 25 ls (.ref q :: st) (z_u h r (q, .inl (0, N, .inl (fun _ => 0))))) : z_J Z mX6_init R k n Q 23 ls (.int i :: st) h := z_newa r (ty := .int) (t := 0) (a0 := (N, .inl (fun _ => 0))) dX6_init_23 rfl rfl (fun _ => rfl) (fun _ q => by cases q) gw122 (fun _ => rfl) hi hN hR (by show N * 4 ≤ 536870912; omega) g
theorem dX6_init_25 : decode cX6_init 25 = .ok (.putfield 16, 3) := by decide +kernel
theorem iX6_init_25 (hh : h r = some (a, .inr (7, fs))) (hl : Nat.blt 4 fs.length = true) (g : z_J Z mX6_init R k n Q 28 ls st (z_u h r (a, .inr (7, fs.set 4 (.ref b))))) : z_J Z mX6_init R k n Q 25 ls ((.ref b) :: .ref a :: st) h := z_putF dX6_init_25 rfl fl_X6_16 fw_X6_4 rfl rfl rfl hh rfl rfl (by simpa [Nat.blt_eq] using hl) g
theorem iX6_init_25N (hh : h r = some (a, .inr (7, fs))) (hl : Nat.blt 4 fs.length = true) (g : z_J Z mX6_init R k n Q 28 ls st (z_u h r (a, .inr (7, fs.set 4 (.null))))) : z_J Z mX6_init R k n Q 25 ls ((.null) :: .ref a :: st) h := z_putF dX6_init_25 rfl fl_X6_16 fw_X6_4 rfl rfl rfl hh rfl rfl (by simpa [Nat.blt_eq] using hl) g
def bX6_init_28 : zB := [(28, .aload_n 0, 29, nI 0), (29, .bipush 10, 31, nI 10)]
theorem bX6_init_28_ok : z_ok cX6_init 28 bX6_init_28 31 = true := by decide +kernel
theorem iX6_init_28 (hr : z_run 1 bX6_init_28 ls st = some (ls', st')) (g : z_J Z mX6_init R k n Q 31 ls' st' h) : z_J Z mX6_init R k n Q 28 ls st h := z_jr bX6_init_28 bX6_init_28_ok hr g
theorem dX6_init_31 : decode cX6_init 31 = .ok (.newarray .int, 2) := by decide +kernel
theorem iX6_init_31 (r : Nat) (hi : i = nI N) (hN : N < 1000) (hR : k + 1 ≤ R.cells ∧ n + N ≤ R.slots) (g : ∀ q, z_J Z mX6_init R (k + 1) (n + N) Q 33 ls (.ref q :: st) (z_u h r (q, .inl (0, N, .inl (fun _ => 0))))) : z_J Z mX6_init R k n Q 31 ls (.int i :: st) h := z_newa r (ty := .int) (t := 0) (a0 := (N, .inl (fun _ => 0))) dX6_init_31 rfl rfl (fun _ => rfl) (fun _ q => by cases q) gw122 (fun _ => rfl) hi hN hR (by show N * 4 ≤ 536870912; omega) g
theorem dX6_init_33 : decode cX6_init 33 = .ok (.putfield 19, 3) := by decide +kernel
theorem iX6_init_33 (hh : h r = some (a, .inr (7, fs))) (hl : Nat.blt 5 fs.length = true) (g : z_J Z mX6_init R k n Q 36 ls st (z_u h r (a, .inr (7, fs.set 5 (.ref b))))) : z_J Z mX6_init R k n Q 33 ls ((.ref b) :: .ref a :: st) h := z_putF dX6_init_33 rfl fl_X6_19 fw_X6_5 rfl rfl rfl hh rfl rfl (by simpa [Nat.blt_eq] using hl) g
theorem iX6_init_33N (hh : h r = some (a, .inr (7, fs))) (hl : Nat.blt 5 fs.length = true) (g : z_J Z mX6_init R k n Q 36 ls st (z_u h r (a, .inr (7, fs.set 5 (.null))))) : z_J Z mX6_init R k n Q 33 ls ((.null) :: .ref a :: st) h := z_putF dX6_init_33 rfl fl_X6_19 fw_X6_5 rfl rfl rfl hh rfl rfl (by simpa [Nat.blt_eq] using hl) g
def bX6_init_36 : zB := [(36, .aload_n 0, 37, nI 0), (37, .bipush 10, 39, nI 10)]
theorem bX6_init_36_ok : z_ok cX6_init 36 bX6_init_36 39 = true := by decide +kernel
theorem iX6_init_36 (hr : z_run 1 bX6_init_36 ls st = some (ls', st')) (g : z_J Z mX6_init R k n Q 39 ls' st' h) : z_J Z mX6_init R k n Q 36 ls st h := z_jr bX6_init_36 bX6_init_36_ok hr g
theorem dX6_init_39 : decode cX6_init 39 = .ok (.newarray .int, 2) := by decide +kernel
theorem iX6_init_39 (r : Nat) (hi : i = nI N) (hN : N < 1000) (hR : k + 1 ≤ R.cells ∧ n + N ≤ R.slots) (g : ∀ q, z_J Z mX6_init R (k + 1) (n + N) Q 41 ls (.ref q :: st) (z_u h r (q, .inl (0, N, .inl (fun _ => 0))))) : z_J Z mX6_init R k n Q 39 ls (.int i :: st) h := z_newa r (ty := .int) (t := 0) (a0 := (N, .inl (fun _ => 0))) dX6_init_39 rfl rfl (fun _ => rfl) (fun _ q => by cases q) gw122 (fun _ => rfl) hi hN hR (by show N * 4 ≤ 536870912; omega) g
theorem dX6_init_41 : decode cX6_init 41 = .ok (.putfield 22, 3) := by decide +kernel
theorem iX6_init_41 (hh : h r = some (a, .inr (7, fs))) (hl : Nat.blt 6 fs.length = true) (g : z_J Z mX6_init R k n Q 44 ls st (z_u h r (a, .inr (7, fs.set 6 (.ref b))))) : z_J Z mX6_init R k n Q 41 ls ((.ref b) :: .ref a :: st) h := z_putF dX6_init_41 rfl fl_X6_22 fw_X6_6 rfl rfl rfl hh rfl rfl (by simpa [Nat.blt_eq] using hl) g
theorem iX6_init_41N (hh : h r = some (a, .inr (7, fs))) (hl : Nat.blt 6 fs.length = true) (g : z_J Z mX6_init R k n Q 44 ls st (z_u h r (a, .inr (7, fs.set 6 (.null))))) : z_J Z mX6_init R k n Q 41 ls ((.null) :: .ref a :: st) h := z_putF dX6_init_41 rfl fl_X6_22 fw_X6_6 rfl rfl rfl hh rfl rfl (by simpa [Nat.blt_eq] using hl) g
def bX6_init_44 : zB := [(44, .aload_n 0, 45, nI 0), (45, .bipush 8, 47, nI 8)]
theorem bX6_init_44_ok : z_ok cX6_init 44 bX6_init_44 47 = true := by decide +kernel
theorem iX6_init_44 (hr : z_run 1 bX6_init_44 ls st = some (ls', st')) (g : z_J Z mX6_init R k n Q 47 ls' st' h) : z_J Z mX6_init R k n Q 44 ls st h := z_jr bX6_init_44 bX6_init_44_ok hr g
theorem dX6_init_47 : decode cX6_init 47 = .ok (.newarray .int, 2) := by decide +kernel
theorem iX6_init_47 (r : Nat) (hi : i = nI N) (hN : N < 1000) (hR : k + 1 ≤ R.cells ∧ n + N ≤ R.slots) (g : ∀ q, z_J Z mX6_init R (k + 1) (n + N) Q 49 ls (.ref q :: st) (z_u h r (q, .inl (0, N, .inl (fun _ => 0))))) : z_J Z mX6_init R k n Q 47 ls (.int i :: st) h := z_newa r (ty := .int) (t := 0) (a0 := (N, .inl (fun _ => 0))) dX6_init_47 rfl rfl (fun _ => rfl) (fun _ q => by cases q) gw122 (fun _ => rfl) hi hN hR (by show N * 4 ≤ 536870912; omega) g
theorem dX6_init_49 : decode cX6_init 49 = .ok (.putfield 25, 3) := by decide +kernel
theorem iX6_init_49 (hh : h r = some (a, .inr (7, fs))) (hl : Nat.blt 8 fs.length = true) (g : z_J Z mX6_init R k n Q 52 ls st (z_u h r (a, .inr (7, fs.set 8 (.ref b))))) : z_J Z mX6_init R k n Q 49 ls ((.ref b) :: .ref a :: st) h := z_putF dX6_init_49 rfl fl_X6_25 fw_X6_8 rfl rfl rfl hh rfl rfl (by simpa [Nat.blt_eq] using hl) g
theorem iX6_init_49N (hh : h r = some (a, .inr (7, fs))) (hl : Nat.blt 8 fs.length = true) (g : z_J Z mX6_init R k n Q 52 ls st (z_u h r (a, .inr (7, fs.set 8 (.null))))) : z_J Z mX6_init R k n Q 49 ls ((.null) :: .ref a :: st) h := z_putF dX6_init_49 rfl fl_X6_25 fw_X6_8 rfl rfl rfl hh rfl rfl (by simpa [Nat.blt_eq] using hl) g
def bX6_init_52 : zB := [(52, .aload_n 0, 53, nI 0), (53, .bipush 8, 55, nI 8)]
theorem bX6_init_52_ok : z_ok cX6_init 52 bX6_init_52 55 = true := by decide +kernel
theorem iX6_init_52 (hr : z_run 1 bX6_init_52 ls st = some (ls', st')) (g : z_J Z mX6_init R k n Q 55 ls' st' h) : z_J Z mX6_init R k n Q 52 ls st h := z_jr bX6_init_52 bX6_init_52_ok hr g
theorem dX6_init_55 : decode cX6_init 55 = .ok (.newarray .int, 2) := by decide +kernel
theorem iX6_init_55 (r : Nat) (hi : i = nI N) (hN : N < 1000) (hR : k + 1 ≤ R.cells ∧ n + N ≤ R.slots) (g : ∀ q, z_J Z mX6_init R (k + 1) (n + N) Q 57 ls (.ref q :: st) (z_u h r (q, .inl (0, N, .inl (fun _ => 0))))) : z_J Z mX6_init R k n Q 55 ls (.int i :: st) h := z_newa r (ty := .int) (t := 0) (a0 := (N, .inl (fun _ => 0))) dX6_init_55 rfl rfl (fun _ => rfl) (fun _ q => by cases q) gw122 (fun _ => rfl) hi hN hR (by show N * 4 ≤ 536870912; omega) g
theorem dX6_init_57 : decode cX6_init 57 = .ok (.putfield 28, 3) := by decide +kernel
theorem iX6_init_57 (hh : h r = some (a, .inr (7, fs))) (hl : Nat.blt 9 fs.length = true) (g : z_J Z mX6_init R k n Q 60 ls st (z_u h r (a, .inr (7, fs.set 9 (.ref b))))) : z_J Z mX6_init R k n Q 57 ls ((.ref b) :: .ref a :: st) h := z_putF dX6_init_57 rfl fl_X6_28 fw_X6_9 rfl rfl rfl hh rfl rfl (by simpa [Nat.blt_eq] using hl) g
theorem iX6_init_57N (hh : h r = some (a, .inr (7, fs))) (hl : Nat.blt 9 fs.length = true) (g : z_J Z mX6_init R k n Q 60 ls st (z_u h r (a, .inr (7, fs.set 9 (.null))))) : z_J Z mX6_init R k n Q 57 ls ((.null) :: .ref a :: st) h := z_putF dX6_init_57 rfl fl_X6_28 fw_X6_9 rfl rfl rfl hh rfl rfl (by simpa [Nat.blt_eq] using hl) g
def bX6_init_60 : zB := [(60, .aload_n 0, 61, nI 0), (61, .bipush 8, 63, nI 8)]
theorem bX6_init_60_ok : z_ok cX6_init 60 bX6_init_60 63 = true := by decide +kernel
theorem iX6_init_60 (hr : z_run 1 bX6_init_60 ls st = some (ls', st')) (g : z_J Z mX6_init R k n Q 63 ls' st' h) : z_J Z mX6_init R k n Q 60 ls st h := z_jr bX6_init_60 bX6_init_60_ok hr g
theorem dX6_init_63 : decode cX6_init 63 = .ok (.newarray .boolean, 2) := by decide +kernel
theorem iX6_init_63 (r : Nat) (hi : i = nI N) (hN : N < 1000) (hR : k + 1 ≤ R.cells ∧ n + N ≤ R.slots) (g : ∀ q, z_J Z mX6_init R (k + 1) (n + N) Q 65 ls (.ref q :: st) (z_u h r (q, .inl (1, N, .inl (fun _ => 0))))) : z_J Z mX6_init R k n Q 63 ls (.int i :: st) h := z_newa r (ty := .boolean) (t := 1) (a0 := (N, .inl (fun _ => 0))) dX6_init_63 rfl rfl (fun _ => rfl) (fun _ q => by cases q) gw791 (fun _ => rfl) hi hN hR (by show N * 1 ≤ 536870912; omega) g
theorem dX6_init_65 : decode cX6_init 65 = .ok (.putfield 31, 3) := by decide +kernel
theorem iX6_init_65 (hh : h r = some (a, .inr (7, fs))) (hl : Nat.blt 10 fs.length = true) (g : z_J Z mX6_init R k n Q 68 ls st (z_u h r (a, .inr (7, fs.set 10 (.ref b))))) : z_J Z mX6_init R k n Q 65 ls ((.ref b) :: .ref a :: st) h := z_putF dX6_init_65 rfl fl_X6_31 fw_X6_10 rfl rfl rfl hh rfl rfl (by simpa [Nat.blt_eq] using hl) g
theorem iX6_init_65N (hh : h r = some (a, .inr (7, fs))) (hl : Nat.blt 10 fs.length = true) (g : z_J Z mX6_init R k n Q 68 ls st (z_u h r (a, .inr (7, fs.set 10 (.null))))) : z_J Z mX6_init R k n Q 65 ls ((.null) :: .ref a :: st) h := z_putF dX6_init_65 rfl fl_X6_31 fw_X6_10 rfl rfl rfl hh rfl rfl (by simpa [Nat.blt_eq] using hl) g
def bX6_init_68 : zB := [(68, .aload_n 0, 69, nI 0), (69, .iconst 5, 70, nI 5)]
theorem bX6_init_68_ok : z_ok cX6_init 68 bX6_init_68 70 = true := by decide +kernel
theorem iX6_init_68 (hr : z_run 1 bX6_init_68 ls st = some (ls', st')) (g : z_J Z mX6_init R k n Q 70 ls' st' h) : z_J Z mX6_init R k n Q 68 ls st h := z_jr bX6_init_68 bX6_init_68_ok hr g
theorem dX6_init_70 : decode cX6_init 70 = .ok (.newarray .int, 2) := by decide +kernel
theorem iX6_init_70 (r : Nat) (hi : i = nI N) (hN : N < 1000) (hR : k + 1 ≤ R.cells ∧ n + N ≤ R.slots) (g : ∀ q, z_J Z mX6_init R (k + 1) (n + N) Q 72 ls (.ref q :: st) (z_u h r (q, .inl (0, N, .inl (fun _ => 0))))) : z_J Z mX6_init R k n Q 70 ls (.int i :: st) h := z_newa r (ty := .int) (t := 0) (a0 := (N, .inl (fun _ => 0))) dX6_init_70 rfl rfl (fun _ => rfl) (fun _ q => by cases q) gw122 (fun _ => rfl) hi hN hR (by show N * 4 ≤ 536870912; omega) g
def bX6_init_72 : zB := [(72, .dup, 73, nI 0), (73, .iconst 0, 74, nI 0), (74, .iconst 1, 75, nI 1)]
theorem bX6_init_72_ok : z_ok cX6_init 72 bX6_init_72 75 = true := by decide +kernel
theorem iX6_init_72 (hr : z_run 1 bX6_init_72 ls st = some (ls', st')) (g : z_J Z mX6_init R k n Q 75 ls' st' h) : z_J Z mX6_init R k n Q 72 ls st h := z_jr bX6_init_72 bX6_init_72_ok hr g
theorem dX6_init_75 : decode cX6_init 75 = .ok (.iastore, 1) := by decide +kernel
theorem iX6_init_75 {f : Nat → Int32} (hh : h r = some (a, .inl (0, N, .inl f))) (hi : i = nI j) (hj : j < N) (hN : N < 2 ^ 31) (g : z_J Z mX6_init R k n Q 76 ls st (z_u h r (a, .inl (0, N, .inl (upd f j x))))) : z_J Z mX6_init R k n Q 75 ls (.int x :: .int i :: .ref a :: st) h := z_iast dX6_init_75 rfl hh hi hj hN g
def bX6_init_76 : zB := [(76, .dup, 77, nI 0), (77, .iconst 1, 78, nI 1), (78, .iconst 1, 79, nI 1)]
theorem bX6_init_76_ok : z_ok cX6_init 76 bX6_init_76 79 = true := by decide +kernel
theorem iX6_init_76 (hr : z_run 1 bX6_init_76 ls st = some (ls', st')) (g : z_J Z mX6_init R k n Q 79 ls' st' h) : z_J Z mX6_init R k n Q 76 ls st h := z_jr bX6_init_76 bX6_init_76_ok hr g
theorem dX6_init_79 : decode cX6_init 79 = .ok (.iastore, 1) := by decide +kernel
theorem iX6_init_79 {f : Nat → Int32} (hh : h r = some (a, .inl (0, N, .inl f))) (hi : i = nI j) (hj : j < N) (hN : N < 2 ^ 31) (g : z_J Z mX6_init R k n Q 80 ls st (z_u h r (a, .inl (0, N, .inl (upd f j x))))) : z_J Z mX6_init R k n Q 79 ls (.int x :: .int i :: .ref a :: st) h := z_iast dX6_init_79 rfl hh hi hj hN g
def bX6_init_80 : zB := [(80, .dup, 81, nI 0), (81, .iconst 2, 82, nI 2), (82, .iconst 1, 83, nI 1)]
theorem bX6_init_80_ok : z_ok cX6_init 80 bX6_init_80 83 = true := by decide +kernel
theorem iX6_init_80 (hr : z_run 1 bX6_init_80 ls st = some (ls', st')) (g : z_J Z mX6_init R k n Q 83 ls' st' h) : z_J Z mX6_init R k n Q 80 ls st h := z_jr bX6_init_80 bX6_init_80_ok hr g
theorem dX6_init_83 : decode cX6_init 83 = .ok (.iastore, 1) := by decide +kernel
theorem iX6_init_83 {f : Nat → Int32} (hh : h r = some (a, .inl (0, N, .inl f))) (hi : i = nI j) (hj : j < N) (hN : N < 2 ^ 31) (g : z_J Z mX6_init R k n Q 84 ls st (z_u h r (a, .inl (0, N, .inl (upd f j x))))) : z_J Z mX6_init R k n Q 83 ls (.int x :: .int i :: .ref a :: st) h := z_iast dX6_init_83 rfl hh hi hj hN g
def bX6_init_84 : zB := [(84, .dup, 85, nI 0), (85, .iconst 3, 86, nI 3), (86, .iconst 1, 87, nI 1)]
theorem bX6_init_84_ok : z_ok cX6_init 84 bX6_init_84 87 = true := by decide +kernel
theorem iX6_init_84 (hr : z_run 1 bX6_init_84 ls st = some (ls', st')) (g : z_J Z mX6_init R k n Q 87 ls' st' h) : z_J Z mX6_init R k n Q 84 ls st h := z_jr bX6_init_84 bX6_init_84_ok hr g
theorem dX6_init_87 : decode cX6_init 87 = .ok (.iastore, 1) := by decide +kernel
theorem iX6_init_87 {f : Nat → Int32} (hh : h r = some (a, .inl (0, N, .inl f))) (hi : i = nI j) (hj : j < N) (hN : N < 2 ^ 31) (g : z_J Z mX6_init R k n Q 88 ls st (z_u h r (a, .inl (0, N, .inl (upd f j x))))) : z_J Z mX6_init R k n Q 87 ls (.int x :: .int i :: .ref a :: st) h := z_iast dX6_init_87 rfl hh hi hj hN g
def bX6_init_88 : zB := [(88, .dup, 89, nI 0), (89, .iconst 4, 90, nI 4), (90, .iconst 1, 91, nI 1)]
theorem bX6_init_88_ok : z_ok cX6_init 88 bX6_init_88 91 = true := by decide +kernel
theorem iX6_init_88 (hr : z_run 1 bX6_init_88 ls st = some (ls', st')) (g : z_J Z mX6_init R k n Q 91 ls' st' h) : z_J Z mX6_init R k n Q 88 ls st h := z_jr bX6_init_88 bX6_init_88_ok hr g
theorem dX6_init_91 : decode cX6_init 91 = .ok (.iastore, 1) := by decide +kernel
theorem iX6_init_91 {f : Nat → Int32} (hh : h r = some (a, .inl (0, N, .inl f))) (hi : i = nI j) (hj : j < N) (hN : N < 2 ^ 31) (g : z_J Z mX6_init R k n Q 92 ls st (z_u h r (a, .inl (0, N, .inl (upd f j x))))) : z_J Z mX6_init R k n Q 91 ls (.int x :: .int i :: .ref a :: st) h := z_iast dX6_init_91 rfl hh hi hj hN g
theorem dX6_init_92 : decode cX6_init 92 = .ok (.putfield 35, 3) := by decide +kernel
theorem iX6_init_92 (hh : h r = some (a, .inr (7, fs))) (hl : Nat.blt 11 fs.length = true) (g : z_J Z mX6_init R k n Q 95 ls st (z_u h r (a, .inr (7, fs.set 11 (.ref b))))) : z_J Z mX6_init R k n Q 92 ls ((.ref b) :: .ref a :: st) h := z_putF dX6_init_92 rfl fl_X6_35 fw_X6_11 rfl rfl rfl hh rfl rfl (by simpa [Nat.blt_eq] using hl) g
theorem iX6_init_92N (hh : h r = some (a, .inr (7, fs))) (hl : Nat.blt 11 fs.length = true) (g : z_J Z mX6_init R k n Q 95 ls st (z_u h r (a, .inr (7, fs.set 11 (.null))))) : z_J Z mX6_init R k n Q 92 ls ((.null) :: .ref a :: st) h := z_putF dX6_init_92 rfl fl_X6_35 fw_X6_11 rfl rfl rfl hh rfl rfl (by simpa [Nat.blt_eq] using hl) g
def bX6_init_95 : zB := [(95, .aload_n 0, 96, nI 0), (96, .bipush 40, 98, nI 40)]
theorem bX6_init_95_ok : z_ok cX6_init 95 bX6_init_95 98 = true := by decide +kernel
theorem iX6_init_95 (hr : z_run 1 bX6_init_95 ls st = some (ls', st')) (g : z_J Z mX6_init R k n Q 98 ls' st' h) : z_J Z mX6_init R k n Q 95 ls st h := z_jr bX6_init_95 bX6_init_95_ok hr g
theorem dX6_init_98 : decode cX6_init 98 = .ok (.newarray .int, 2) := by decide +kernel
theorem iX6_init_98 (r : Nat) (hi : i = nI N) (hN : N < 1000) (hR : k + 1 ≤ R.cells ∧ n + N ≤ R.slots) (g : ∀ q, z_J Z mX6_init R (k + 1) (n + N) Q 100 ls (.ref q :: st) (z_u h r (q, .inl (0, N, .inl (fun _ => 0))))) : z_J Z mX6_init R k n Q 98 ls (.int i :: st) h := z_newa r (ty := .int) (t := 0) (a0 := (N, .inl (fun _ => 0))) dX6_init_98 rfl rfl (fun _ => rfl) (fun _ q => by cases q) gw122 (fun _ => rfl) hi hN hR (by show N * 4 ≤ 536870912; omega) g
theorem dX6_init_100 : decode cX6_init 100 = .ok (.putfield 38, 3) := by decide +kernel
theorem iX6_init_100 (hh : h r = some (a, .inr (7, fs))) (hl : Nat.blt 12 fs.length = true) (g : z_J Z mX6_init R k n Q 103 ls st (z_u h r (a, .inr (7, fs.set 12 (.ref b))))) : z_J Z mX6_init R k n Q 100 ls ((.ref b) :: .ref a :: st) h := z_putF dX6_init_100 rfl fl_X6_38 fw_X6_12 rfl rfl rfl hh rfl rfl (by simpa [Nat.blt_eq] using hl) g
theorem iX6_init_100N (hh : h r = some (a, .inr (7, fs))) (hl : Nat.blt 12 fs.length = true) (g : z_J Z mX6_init R k n Q 103 ls st (z_u h r (a, .inr (7, fs.set 12 (.null))))) : z_J Z mX6_init R k n Q 100 ls ((.null) :: .ref a :: st) h := z_putF dX6_init_100 rfl fl_X6_38 fw_X6_12 rfl rfl rfl hh rfl rfl (by simpa [Nat.blt_eq] using hl) g
def bX6_init_103 : zB := [(103, .aload_n 0, 104, nI 0), (104, .bipush 40, 106, nI 40)]
theorem bX6_init_103_ok : z_ok cX6_init 103 bX6_init_103 106 = true := by decide +kernel
theorem iX6_init_103 (hr : z_run 1 bX6_init_103 ls st = some (ls', st')) (g : z_J Z mX6_init R k n Q 106 ls' st' h) : z_J Z mX6_init R k n Q 103 ls st h := z_jr bX6_init_103 bX6_init_103_ok hr g
theorem dX6_init_106 : decode cX6_init 106 = .ok (.newarray .int, 2) := by decide +kernel
theorem iX6_init_106 (r : Nat) (hi : i = nI N) (hN : N < 1000) (hR : k + 1 ≤ R.cells ∧ n + N ≤ R.slots) (g : ∀ q, z_J Z mX6_init R (k + 1) (n + N) Q 108 ls (.ref q :: st) (z_u h r (q, .inl (0, N, .inl (fun _ => 0))))) : z_J Z mX6_init R k n Q 106 ls (.int i :: st) h := z_newa r (ty := .int) (t := 0) (a0 := (N, .inl (fun _ => 0))) dX6_init_106 rfl rfl (fun _ => rfl) (fun _ q => by cases q) gw122 (fun _ => rfl) hi hN hR (by show N * 4 ≤ 536870912; omega) g
theorem dX6_init_108 : decode cX6_init 108 = .ok (.putfield 41, 3) := by decide +kernel
theorem iX6_init_108 (hh : h r = some (a, .inr (7, fs))) (hl : Nat.blt 13 fs.length = true) (g : z_J Z mX6_init R k n Q 111 ls st (z_u h r (a, .inr (7, fs.set 13 (.ref b))))) : z_J Z mX6_init R k n Q 108 ls ((.ref b) :: .ref a :: st) h := z_putF dX6_init_108 rfl fl_X6_41 fw_X6_13 rfl rfl rfl hh rfl rfl (by simpa [Nat.blt_eq] using hl) g
theorem iX6_init_108N (hh : h r = some (a, .inr (7, fs))) (hl : Nat.blt 13 fs.length = true) (g : z_J Z mX6_init R k n Q 111 ls st (z_u h r (a, .inr (7, fs.set 13 (.null))))) : z_J Z mX6_init R k n Q 108 ls ((.null) :: .ref a :: st) h := z_putF dX6_init_108 rfl fl_X6_41 fw_X6_13 rfl rfl rfl hh rfl rfl (by simpa [Nat.blt_eq] using hl) g
def bX6_init_111 : zB := [(111, .aload_n 0, 112, nI 0), (112, .sipush 800, 115, nI 800)]
theorem bX6_init_111_ok : z_ok cX6_init 111 bX6_init_111 115 = true := by decide +kernel
theorem iX6_init_111 (hr : z_run 1 bX6_init_111 ls st = some (ls', st')) (g : z_J Z mX6_init R k n Q 115 ls' st' h) : z_J Z mX6_init R k n Q 111 ls st h := z_jr bX6_init_111 bX6_init_111_ok hr g
theorem dX6_init_115 : decode cX6_init 115 = .ok (.newarray .int, 2) := by decide +kernel
theorem iX6_init_115 (r : Nat) (hi : i = nI N) (hN : N < 1000) (hR : k + 1 ≤ R.cells ∧ n + N ≤ R.slots) (g : ∀ q, z_J Z mX6_init R (k + 1) (n + N) Q 117 ls (.ref q :: st) (z_u h r (q, .inl (0, N, .inl (fun _ => 0))))) : z_J Z mX6_init R k n Q 115 ls (.int i :: st) h := z_newa r (ty := .int) (t := 0) (a0 := (N, .inl (fun _ => 0))) dX6_init_115 rfl rfl (fun _ => rfl) (fun _ q => by cases q) gw122 (fun _ => rfl) hi hN hR (by show N * 4 ≤ 536870912; omega) g
theorem dX6_init_117 : decode cX6_init 117 = .ok (.putfield 44, 3) := by decide +kernel
theorem iX6_init_117 (hh : h r = some (a, .inr (7, fs))) (hl : Nat.blt 14 fs.length = true) (g : z_J Z mX6_init R k n Q 120 ls st (z_u h r (a, .inr (7, fs.set 14 (.ref b))))) : z_J Z mX6_init R k n Q 117 ls ((.ref b) :: .ref a :: st) h := z_putF dX6_init_117 rfl fl_X6_44 fw_X6_14 rfl rfl rfl hh rfl rfl (by simpa [Nat.blt_eq] using hl) g
theorem iX6_init_117N (hh : h r = some (a, .inr (7, fs))) (hl : Nat.blt 14 fs.length = true) (g : z_J Z mX6_init R k n Q 120 ls st (z_u h r (a, .inr (7, fs.set 14 (.null))))) : z_J Z mX6_init R k n Q 117 ls ((.null) :: .ref a :: st) h := z_putF dX6_init_117 rfl fl_X6_44 fw_X6_14 rfl rfl rfl hh rfl rfl (by simpa [Nat.blt_eq] using hl) g
def bX6_init_120 : zB := [(120, .aload_n 0, 121, nI 0), (121, .sipush 800, 124, nI 800)]
theorem bX6_init_120_ok : z_ok cX6_init 120 bX6_init_120 124 = true := by decide +kernel
theorem iX6_init_120 (hr : z_run 1 bX6_init_120 ls st = some (ls', st')) (g : z_J Z mX6_init R k n Q 124 ls' st' h) : z_J Z mX6_init R k n Q 120 ls st h := z_jr bX6_init_120 bX6_init_120_ok hr g
theorem dX6_init_124 : decode cX6_init 124 = .ok (.newarray .int, 2) := by decide +kernel
theorem iX6_init_124 (r : Nat) (hi : i = nI N) (hN : N < 1000) (hR : k + 1 ≤ R.cells ∧ n + N ≤ R.slots) (g : ∀ q, z_J Z mX6_init R (k + 1) (n + N) Q 126 ls (.ref q :: st) (z_u h r (q, .inl (0, N, .inl (fun _ => 0))))) : z_J Z mX6_init R k n Q 124 ls (.int i :: st) h := z_newa r (ty := .int) (t := 0) (a0 := (N, .inl (fun _ => 0))) dX6_init_124 rfl rfl (fun _ => rfl) (fun _ q => by cases q) gw122 (fun _ => rfl) hi hN hR (by show N * 4 ≤ 536870912; omega) g
theorem dX6_init_126 : decode cX6_init 126 = .ok (.putfield 47, 3) := by decide +kernel
theorem iX6_init_126 (hh : h r = some (a, .inr (7, fs))) (hl : Nat.blt 15 fs.length = true) (g : z_J Z mX6_init R k n Q 129 ls st (z_u h r (a, .inr (7, fs.set 15 (.ref b))))) : z_J Z mX6_init R k n Q 126 ls ((.ref b) :: .ref a :: st) h := z_putF dX6_init_126 rfl fl_X6_47 fw_X6_15 rfl rfl rfl hh rfl rfl (by simpa [Nat.blt_eq] using hl) g
theorem iX6_init_126N (hh : h r = some (a, .inr (7, fs))) (hl : Nat.blt 15 fs.length = true) (g : z_J Z mX6_init R k n Q 129 ls st (z_u h r (a, .inr (7, fs.set 15 (.null))))) : z_J Z mX6_init R k n Q 126 ls ((.null) :: .ref a :: st) h := z_putF dX6_init_126 rfl fl_X6_47 fw_X6_15 rfl rfl rfl hh rfl rfl (by simpa [Nat.blt_eq] using hl) g
def bX6_init_129 : zB := [(129, .aload_n 0, 130, nI 0), (130, .bipush 40, 132, nI 40)]
theorem bX6_init_129_ok : z_ok cX6_init 129 bX6_init_129 132 = true := by decide +kernel
theorem iX6_init_129 (hr : z_run 1 bX6_init_129 ls st = some (ls', st')) (g : z_J Z mX6_init R k n Q 132 ls' st' h) : z_J Z mX6_init R k n Q 129 ls st h := z_jr bX6_init_129 bX6_init_129_ok hr g
theorem dX6_init_132 : decode cX6_init 132 = .ok (.newarray .int, 2) := by decide +kernel
theorem iX6_init_132 (r : Nat) (hi : i = nI N) (hN : N < 1000) (hR : k + 1 ≤ R.cells ∧ n + N ≤ R.slots) (g : ∀ q, z_J Z mX6_init R (k + 1) (n + N) Q 134 ls (.ref q :: st) (z_u h r (q, .inl (0, N, .inl (fun _ => 0))))) : z_J Z mX6_init R k n Q 132 ls (.int i :: st) h := z_newa r (ty := .int) (t := 0) (a0 := (N, .inl (fun _ => 0))) dX6_init_132 rfl rfl (fun _ => rfl) (fun _ q => by cases q) gw122 (fun _ => rfl) hi hN hR (by show N * 4 ≤ 536870912; omega) g
theorem dX6_init_134 : decode cX6_init 134 = .ok (.putfield 50, 3) := by decide +kernel
theorem iX6_init_134 (hh : h r = some (a, .inr (7, fs))) (hl : Nat.blt 17 fs.length = true) (g : z_J Z mX6_init R k n Q 137 ls st (z_u h r (a, .inr (7, fs.set 17 (.ref b))))) : z_J Z mX6_init R k n Q 134 ls ((.ref b) :: .ref a :: st) h := z_putF dX6_init_134 rfl fl_X6_50 fw_X6_17 rfl rfl rfl hh rfl rfl (by simpa [Nat.blt_eq] using hl) g
theorem iX6_init_134N (hh : h r = some (a, .inr (7, fs))) (hl : Nat.blt 17 fs.length = true) (g : z_J Z mX6_init R k n Q 137 ls st (z_u h r (a, .inr (7, fs.set 17 (.null))))) : z_J Z mX6_init R k n Q 134 ls ((.null) :: .ref a :: st) h := z_putF dX6_init_134 rfl fl_X6_50 fw_X6_17 rfl rfl rfl hh rfl rfl (by simpa [Nat.blt_eq] using hl) g
def bX6_init_137 : zB := [(137, .aload_n 0, 138, nI 0), (138, .bipush 40, 140, nI 40)]
theorem bX6_init_137_ok : z_ok cX6_init 137 bX6_init_137 140 = true := by decide +kernel
theorem iX6_init_137 (hr : z_run 1 bX6_init_137 ls st = some (ls', st')) (g : z_J Z mX6_init R k n Q 140 ls' st' h) : z_J Z mX6_init R k n Q 137 ls st h := z_jr bX6_init_137 bX6_init_137_ok hr g
theorem dX6_init_140 : decode cX6_init 140 = .ok (.newarray .int, 2) := by decide +kernel
theorem iX6_init_140 (r : Nat) (hi : i = nI N) (hN : N < 1000) (hR : k + 1 ≤ R.cells ∧ n + N ≤ R.slots) (g : ∀ q, z_J Z mX6_init R (k + 1) (n + N) Q 142 ls (.ref q :: st) (z_u h r (q, .inl (0, N, .inl (fun _ => 0))))) : z_J Z mX6_init R k n Q 140 ls (.int i :: st) h := z_newa r (ty := .int) (t := 0) (a0 := (N, .inl (fun _ => 0))) dX6_init_140 rfl rfl (fun _ => rfl) (fun _ q => by cases q) gw122 (fun _ => rfl) hi hN hR (by show N * 4 ≤ 536870912; omega) g
theorem dX6_init_142 : decode cX6_init 142 = .ok (.putfield 53, 3) := by decide +kernel
theorem iX6_init_142 (hh : h r = some (a, .inr (7, fs))) (hl : Nat.blt 18 fs.length = true) (g : z_J Z mX6_init R k n Q 145 ls st (z_u h r (a, .inr (7, fs.set 18 (.ref b))))) : z_J Z mX6_init R k n Q 142 ls ((.ref b) :: .ref a :: st) h := z_putF dX6_init_142 rfl fl_X6_53 fw_X6_18 rfl rfl rfl hh rfl rfl (by simpa [Nat.blt_eq] using hl) g
theorem iX6_init_142N (hh : h r = some (a, .inr (7, fs))) (hl : Nat.blt 18 fs.length = true) (g : z_J Z mX6_init R k n Q 145 ls st (z_u h r (a, .inr (7, fs.set 18 (.null))))) : z_J Z mX6_init R k n Q 142 ls ((.null) :: .ref a :: st) h := z_putF dX6_init_142 rfl fl_X6_53 fw_X6_18 rfl rfl rfl hh rfl rfl (by simpa [Nat.blt_eq] using hl) g
def bX6_init_145 : zB := [(145, .aload_n 0, 146, nI 0), (146, .bipush 40, 148, nI 40)]
theorem bX6_init_145_ok : z_ok cX6_init 145 bX6_init_145 148 = true := by decide +kernel
theorem iX6_init_145 (hr : z_run 1 bX6_init_145 ls st = some (ls', st')) (g : z_J Z mX6_init R k n Q 148 ls' st' h) : z_J Z mX6_init R k n Q 145 ls st h := z_jr bX6_init_145 bX6_init_145_ok hr g
theorem dX6_init_148 : decode cX6_init 148 = .ok (.newarray .int, 2) := by decide +kernel
theorem iX6_init_148 (r : Nat) (hi : i = nI N) (hN : N < 1000) (hR : k + 1 ≤ R.cells ∧ n + N ≤ R.slots) (g : ∀ q, z_J Z mX6_init R (k + 1) (n + N) Q 150 ls (.ref q :: st) (z_u h r (q, .inl (0, N, .inl (fun _ => 0))))) : z_J Z mX6_init R k n Q 148 ls (.int i :: st) h := z_newa r (ty := .int) (t := 0) (a0 := (N, .inl (fun _ => 0))) dX6_init_148 rfl rfl (fun _ => rfl) (fun _ q => by cases q) gw122 (fun _ => rfl) hi hN hR (by show N * 4 ≤ 536870912; omega) g
theorem dX6_init_150 : decode cX6_init 150 = .ok (.putfield 56, 3) := by decide +kernel
theorem iX6_init_150 (hh : h r = some (a, .inr (7, fs))) (hl : Nat.blt 19 fs.length = true) (g : z_J Z mX6_init R k n Q 153 ls st (z_u h r (a, .inr (7, fs.set 19 (.ref b))))) : z_J Z mX6_init R k n Q 150 ls ((.ref b) :: .ref a :: st) h := z_putF dX6_init_150 rfl fl_X6_56 fw_X6_19 rfl rfl rfl hh rfl rfl (by simpa [Nat.blt_eq] using hl) g
theorem iX6_init_150N (hh : h r = some (a, .inr (7, fs))) (hl : Nat.blt 19 fs.length = true) (g : z_J Z mX6_init R k n Q 153 ls st (z_u h r (a, .inr (7, fs.set 19 (.null))))) : z_J Z mX6_init R k n Q 150 ls ((.null) :: .ref a :: st) h := z_putF dX6_init_150 rfl fl_X6_56 fw_X6_19 rfl rfl rfl hh rfl rfl (by simpa [Nat.blt_eq] using hl) g
def bX6_init_153 : zB := [(153, .aload_n 0, 154, nI 0), (154, .bipush 40, 156, nI 40)]
theorem bX6_init_153_ok : z_ok cX6_init 153 bX6_init_153 156 = true := by decide +kernel
theorem iX6_init_153 (hr : z_run 1 bX6_init_153 ls st = some (ls', st')) (g : z_J Z mX6_init R k n Q 156 ls' st' h) : z_J Z mX6_init R k n Q 153 ls st h := z_jr bX6_init_153 bX6_init_153_ok hr g
theorem dX6_init_156 : decode cX6_init 156 = .ok (.newarray .int, 2) := by decide +kernel
theorem iX6_init_156 (r : Nat) (hi : i = nI N) (hN : N < 1000) (hR : k + 1 ≤ R.cells ∧ n + N ≤ R.slots) (g : ∀ q, z_J Z mX6_init R (k + 1) (n + N) Q 158 ls (.ref q :: st) (z_u h r (q, .inl (0, N, .inl (fun _ => 0))))) : z_J Z mX6_init R k n Q 156 ls (.int i :: st) h := z_newa r (ty := .int) (t := 0) (a0 := (N, .inl (fun _ => 0))) dX6_init_156 rfl rfl (fun _ => rfl) (fun _ q => by cases q) gw122 (fun _ => rfl) hi hN hR (by show N * 4 ≤ 536870912; omega) g
theorem dX6_init_158 : decode cX6_init 158 = .ok (.putfield 59, 3) := by decide +kernel
theorem iX6_init_158 (hh : h r = some (a, .inr (7, fs))) (hl : Nat.blt 20 fs.length = true) (g : z_J Z mX6_init R k n Q 161 ls st (z_u h r (a, .inr (7, fs.set 20 (.ref b))))) : z_J Z mX6_init R k n Q 158 ls ((.ref b) :: .ref a :: st) h := z_putF dX6_init_158 rfl fl_X6_59 fw_X6_20 rfl rfl rfl hh rfl rfl (by simpa [Nat.blt_eq] using hl) g
theorem iX6_init_158N (hh : h r = some (a, .inr (7, fs))) (hl : Nat.blt 20 fs.length = true) (g : z_J Z mX6_init R k n Q 161 ls st (z_u h r (a, .inr (7, fs.set 20 (.null))))) : z_J Z mX6_init R k n Q 158 ls ((.null) :: .ref a :: st) h := z_putF dX6_init_158 rfl fl_X6_59 fw_X6_20 rfl rfl rfl hh rfl rfl (by simpa [Nat.blt_eq] using hl) g
def bX6_init_161 : zB := [(161, .aload_n 0, 162, nI 0), (162, .bipush 40, 164, nI 40)]
theorem bX6_init_161_ok : z_ok cX6_init 161 bX6_init_161 164 = true := by decide +kernel
theorem iX6_init_161 (hr : z_run 1 bX6_init_161 ls st = some (ls', st')) (g : z_J Z mX6_init R k n Q 164 ls' st' h) : z_J Z mX6_init R k n Q 161 ls st h := z_jr bX6_init_161 bX6_init_161_ok hr g
theorem dX6_init_164 : decode cX6_init 164 = .ok (.newarray .int, 2) := by decide +kernel
theorem iX6_init_164 (r : Nat) (hi : i = nI N) (hN : N < 1000) (hR : k + 1 ≤ R.cells ∧ n + N ≤ R.slots) (g : ∀ q, z_J Z mX6_init R (k + 1) (n + N) Q 166 ls (.ref q :: st) (z_u h r (q, .inl (0, N, .inl (fun _ => 0))))) : z_J Z mX6_init R k n Q 164 ls (.int i :: st) h := z_newa r (ty := .int) (t := 0) (a0 := (N, .inl (fun _ => 0))) dX6_init_164 rfl rfl (fun _ => rfl) (fun _ q => by cases q) gw122 (fun _ => rfl) hi hN hR (by show N * 4 ≤ 536870912; omega) g
theorem dX6_init_166 : decode cX6_init 166 = .ok (.putfield 62, 3) := by decide +kernel
theorem iX6_init_166 (hh : h r = some (a, .inr (7, fs))) (hl : Nat.blt 21 fs.length = true) (g : z_J Z mX6_init R k n Q 169 ls st (z_u h r (a, .inr (7, fs.set 21 (.ref b))))) : z_J Z mX6_init R k n Q 166 ls ((.ref b) :: .ref a :: st) h := z_putF dX6_init_166 rfl fl_X6_62 fw_X6_21 rfl rfl rfl hh rfl rfl (by simpa [Nat.blt_eq] using hl) g
theorem iX6_init_166N (hh : h r = some (a, .inr (7, fs))) (hl : Nat.blt 21 fs.length = true) (g : z_J Z mX6_init R k n Q 169 ls st (z_u h r (a, .inr (7, fs.set 21 (.null))))) : z_J Z mX6_init R k n Q 166 ls ((.null) :: .ref a :: st) h := z_putF dX6_init_166 rfl fl_X6_62 fw_X6_21 rfl rfl rfl hh rfl rfl (by simpa [Nat.blt_eq] using hl) g
def bX6_init_169 : zB := [(169, .aload_n 0, 170, nI 0), (170, .sipush 1024, 173, nI 1024)]
theorem bX6_init_169_ok : z_ok cX6_init 169 bX6_init_169 173 = true := by decide +kernel
theorem iX6_init_169 (hr : z_run 1 bX6_init_169 ls st = some (ls', st')) (g : z_J Z mX6_init R k n Q 173 ls' st' h) : z_J Z mX6_init R k n Q 169 ls st h := z_jr bX6_init_169 bX6_init_169_ok hr g
theorem dX6_init_173 : decode cX6_init 173 = .ok (.newarray .int, 2) := by decide +kernel
theorem iX6_init_173 (r : Nat) (hi : i = nI N) (hN : N < 1000) (hR : k + 1 ≤ R.cells ∧ n + N ≤ R.slots) (g : ∀ q, z_J Z mX6_init R (k + 1) (n + N) Q 175 ls (.ref q :: st) (z_u h r (q, .inl (0, N, .inl (fun _ => 0))))) : z_J Z mX6_init R k n Q 173 ls (.int i :: st) h := z_newa r (ty := .int) (t := 0) (a0 := (N, .inl (fun _ => 0))) dX6_init_173 rfl rfl (fun _ => rfl) (fun _ q => by cases q) gw122 (fun _ => rfl) hi hN hR (by show N * 4 ≤ 536870912; omega) g
theorem dX6_init_175 : decode cX6_init 175 = .ok (.putfield 65, 3) := by decide +kernel
theorem iX6_init_175 (hh : h r = some (a, .inr (7, fs))) (hl : Nat.blt 22 fs.length = true) (g : z_J Z mX6_init R k n Q 178 ls st (z_u h r (a, .inr (7, fs.set 22 (.ref b))))) : z_J Z mX6_init R k n Q 175 ls ((.ref b) :: .ref a :: st) h := z_putF dX6_init_175 rfl fl_X6_65 fw_X6_22 rfl rfl rfl hh rfl rfl (by simpa [Nat.blt_eq] using hl) g
theorem iX6_init_175N (hh : h r = some (a, .inr (7, fs))) (hl : Nat.blt 22 fs.length = true) (g : z_J Z mX6_init R k n Q 178 ls st (z_u h r (a, .inr (7, fs.set 22 (.null))))) : z_J Z mX6_init R k n Q 175 ls ((.null) :: .ref a :: st) h := z_putF dX6_init_175 rfl fl_X6_65 fw_X6_22 rfl rfl rfl hh rfl rfl (by simpa [Nat.blt_eq] using hl) g
theorem dX6_init_178 : decode cX6_init 178 = .ok (.return_, 1) := by decide +kernel
theorem iX6_init_178 (hk : k ≤ R.cells) (hs : n ≤ R.slots) (hq : Q (.inl none) h) : z_J Z mX6_init R k n Q 178 ls [] h := z_vret dX6_init_178 rfl hk hs hq
/-! X6_thrown -/
def bX6_thrown_0 : zB := [(0, .aload_n 0, 1, nI 0)]
theorem bX6_thrown_0_ok : z_ok cX6_thrown 0 bX6_thrown_0 1 = true := by decide +kernel
theorem iX6_thrown_0 (hr : z_run 1 bX6_thrown_0 ls st = some (ls', st')) (g : z_J Z mX6_thrown R k n Q 1 ls' st' h) : z_J Z mX6_thrown R k n Q 0 ls st h := z_jr bX6_thrown_0 bX6_thrown_0_ok hr g
theorem dX6_thrown_1 : decode cX6_thrown 1 = .ok (.getfield 68, 3) := by decide +kernel
theorem iX6_thrown_1 (hh : h r = some (a, .inr (7, fs))) (hv : fs[0]? = some v) (g : z_J Z mX6_thrown R k n Q 4 ls (v :: st) h) : z_J Z mX6_thrown R k n Q 1 ls (.ref a :: st) h := z_get dX6_thrown_1 rfl fl_X6_68 hh hv g
theorem dX6_thrown_4 : decode cX6_thrown 4 = .ok (.ireturn, 1) := by decide +kernel
theorem iX6_thrown_4 (hk : k ≤ R.cells) (hs : n ≤ R.slots) (hq : Q (.inl (some (.int x))) h) : z_J Z mX6_thrown R k n Q 4 ls [.int x] h := z_iret (ty := .int) dX6_thrown_4 rfl rfl hk hs hq
/-! X6_in -/
def bX6_in_0 : zB := [(0, .iload_n 0, 1, nI 0), (1, .iload_n 1, 2, nI 0)]
theorem bX6_in_0_ok : z_ok cX6_in 0 bX6_in_0 2 = true := by decide +kernel
theorem iX6_in_0 (hr : z_run 3 bX6_in_0 ls st = some (ls', st')) (g : z_J Z mX6_in R k n Q 2 ls' st' h) : z_J Z mX6_in R k n Q 0 ls st h := z_jr bX6_in_0 bX6_in_0_ok hr g
theorem dX6_in_2 : decode cX6_in 2 = .ok (.if_icmp .lt 12, 3) := by decide +kernel
theorem iX6_in_2 (kt : x < y → z_J Z mX6_in R k n Q 14 ls st h) (kf : ¬ x < y → z_J Z mX6_in R k n Q 5 ls st h) : z_J Z mX6_in R k n Q 2 ls (.int y :: .int x :: st) h := z_ic_lt dX6_in_2 (tgt := 14) (by decide) rfl kt kf
def bX6_in_5 : zB := [(5, .iload_n 0, 6, nI 0), (6, .iload_n 2, 7, nI 0)]
theorem bX6_in_5_ok : z_ok cX6_in 5 bX6_in_5 7 = true := by decide +kernel
theorem iX6_in_5 (hr : z_run 3 bX6_in_5 ls st = some (ls', st')) (g : z_J Z mX6_in R k n Q 7 ls' st' h) : z_J Z mX6_in R k n Q 5 ls st h := z_jr bX6_in_5 bX6_in_5_ok hr g
theorem dX6_in_7 : decode cX6_in 7 = .ok (.if_icmp .gt 7, 3) := by decide +kernel
theorem iX6_in_7 (kt : y < x → z_J Z mX6_in R k n Q 14 ls st h) (kf : ¬ y < x → z_J Z mX6_in R k n Q 10 ls st h) : z_J Z mX6_in R k n Q 7 ls (.int y :: .int x :: st) h := z_ic_gt dX6_in_7 (tgt := 14) (by decide) rfl kt kf
def bX6_in_10 : zB := [(10, .iconst 1, 11, nI 1), (11, .goto 4, 15, nI 0)]
theorem bX6_in_10_ok : z_ok cX6_in 10 bX6_in_10 15 = true := by decide +kernel
theorem iX6_in_10 (hr : z_run 3 bX6_in_10 ls st = some (ls', st')) (g : z_J Z mX6_in R k n Q 15 ls' st' h) : z_J Z mX6_in R k n Q 10 ls st h := z_jr bX6_in_10 bX6_in_10_ok hr g
def bX6_in_14 : zB := [(14, .iconst 0, 15, nI 0)]
theorem bX6_in_14_ok : z_ok cX6_in 14 bX6_in_14 15 = true := by decide +kernel
theorem iX6_in_14 (hr : z_run 3 bX6_in_14 ls st = some (ls', st')) (g : z_J Z mX6_in R k n Q 15 ls' st' h) : z_J Z mX6_in R k n Q 14 ls st h := z_jr bX6_in_14 bX6_in_14_ok hr g
theorem dX6_in_15 : decode cX6_in 15 = .ok (.ireturn, 1) := by decide +kernel
theorem iX6_in_15 (hz : narrow .boolean (.int x) = .int x) (hk : k ≤ R.cells) (hs : n ≤ R.slots) (hq : Q (.inl (some (.int x))) h) : z_J Z mX6_in R k n Q 15 ls [.int x] h := z_iret (ty := .boolean) dX6_in_15 rfl hz hk hs hq
/-! X6_isProduct -/
def bX6_isProduct_0 : zB := [(0, .iload_n 0, 1, nI 0), (1, .iconst 0, 2, nI 0), (2, .iconst 4, 3, nI 4)]
theorem bX6_isProduct_0_ok : z_ok cX6_isProduct 0 bX6_isProduct_0 3 = true := by decide +kernel
theorem iX6_isProduct_0 (hr : z_run 1 bX6_isProduct_0 ls st = some (ls', st')) (g : z_J Z mX6_isProduct R k n Q 3 ls' st' h) : z_J Z mX6_isProduct R k n Q 0 ls st h := z_jr bX6_isProduct_0 bX6_isProduct_0_ok hr g
theorem dX6_isProduct_3 : decode cX6_isProduct 3 = .ok (.invokestatic 72, 3) := by decide +kernel
theorem iX6_isProduct_3 (ha : z_args 3 st [] = some (As, rest)) (hc : z_chk rest As 3 = true) (hR : z_rm R R' 3 k n) (gc : z_J Z mX6_in R' 0 0 Q' 0 As [] h) (kr : ∀ (v : Option Value) (h' : zH), Q' (.inl v) h' → z_J Z mX6_isProduct R (k + R'.cells) (n + R'.slots) Q 6 ls (v.toList ++ rest) h') (kx : ∀ (E : String) (h' : zH), Q' (.inr E) h' → z_JX Z mX6_isProduct R (k + R'.cells) (n + R'.slots) Q 3 ls E h') : z_J Z mX6_isProduct R k n Q 3 ls st h := z_callS (M' := mX6_in) dX6_isProduct_3 rfl cs_X6_72 gw801 ha hR (z_chk1 hc) (z_chk2 hc) (z_chk3 hc) gc kr kx
theorem dX6_isProduct_6 : decode cX6_isProduct 6 = .ok (.ireturn, 1) := by decide +kernel
theorem iX6_isProduct_6 (hz : narrow .boolean (.int x) = .int x) (hk : k ≤ R.cells) (hs : n ≤ R.slots) (hq : Q (.inl (some (.int x))) h) : z_J Z mX6_isProduct R k n Q 6 ls [.int x] h := z_iret (ty := .boolean) dX6_isProduct_6 rfl hz hk hs hq
/-! X6_isMachine -/
def bX6_isMachine_0 : zB := [(0, .iload_n 1, 1, nI 0), (1, .iconst 0, 2, nI 0), (2, .aload_n 0, 3, nI 0)]
theorem bX6_isMachine_0_ok : z_ok cX6_isMachine 0 bX6_isMachine_0 3 = true := by decide +kernel
theorem iX6_isMachine_0 (hr : z_run 2 bX6_isMachine_0 ls st = some (ls', st')) (g : z_J Z mX6_isMachine R k n Q 3 ls' st' h) : z_J Z mX6_isMachine R k n Q 0 ls st h := z_jr bX6_isMachine_0 bX6_isMachine_0_ok hr g
theorem dX6_isMachine_3 : decode cX6_isMachine 3 = .ok (.getfield 76, 3) := by decide +kernel
theorem iX6_isMachine_3 (hh : h r = some (a, .inr (7, fs))) (hv : fs[7]? = some v) (g : z_J Z mX6_isMachine R k n Q 6 ls (v :: st) h) : z_J Z mX6_isMachine R k n Q 3 ls (.ref a :: st) h := z_get dX6_isMachine_3 rfl fl_X6_76 hh hv g
def bX6_isMachine_6 : zB := [(6, .iconst 1, 7, nI 1), (7, .isub, 8, nI 0)]
theorem bX6_isMachine_6_ok : z_ok cX6_isMachine 6 bX6_isMachine_6 8 = true := by decide +kernel
theorem iX6_isMachine_6 (hr : z_run 2 bX6_isMachine_6 ls st = some (ls', st')) (g : z_J Z mX6_isMachine R k n Q 8 ls' st' h) : z_J Z mX6_isMachine R k n Q 6 ls st h := z_jr bX6_isMachine_6 bX6_isMachine_6_ok hr g
theorem dX6_isMachine_8 : decode cX6_isMachine 8 = .ok (.invokestatic 72, 3) := by decide +kernel
theorem iX6_isMachine_8 (ha : z_args 3 st [] = some (As, rest)) (hc : z_chk rest As 3 = true) (hR : z_rm R R' 3 k n) (gc : z_J Z mX6_in R' 0 0 Q' 0 As [] h) (kr : ∀ (v : Option Value) (h' : zH), Q' (.inl v) h' → z_J Z mX6_isMachine R (k + R'.cells) (n + R'.slots) Q 11 ls (v.toList ++ rest) h') (kx : ∀ (E : String) (h' : zH), Q' (.inr E) h' → z_JX Z mX6_isMachine R (k + R'.cells) (n + R'.slots) Q 8 ls E h') : z_J Z mX6_isMachine R k n Q 8 ls st h := z_callS (M' := mX6_in) dX6_isMachine_8 rfl cs_X6_72 gw801 ha hR (z_chk1 hc) (z_chk2 hc) (z_chk3 hc) gc kr kx
theorem dX6_isMachine_11 : decode cX6_isMachine 11 = .ok (.ireturn, 1) := by decide +kernel
theorem iX6_isMachine_11 (hz : narrow .boolean (.int x) = .int x) (hk : k ≤ R.cells) (hs : n ≤ R.slots) (hq : Q (.inl (some (.int x))) h) : z_J Z mX6_isMachine R k n Q 11 ls [.int x] h := z_iret (ty := .boolean) dX6_isMachine_11 rfl hz hk hs hq
/-! X6_isDay -/
def bX6_isDay_0 : zB := [(0, .iload_n 0, 1, nI 0), (1, .iconst 0, 2, nI 0), (2, .sipush 720, 5, nI 720)]
theorem bX6_isDay_0_ok : z_ok cX6_isDay 0 bX6_isDay_0 5 = true := by decide +kernel
theorem iX6_isDay_0 (hr : z_run 1 bX6_isDay_0 ls st = some (ls', st')) (g : z_J Z mX6_isDay R k n Q 5 ls' st' h) : z_J Z mX6_isDay R k n Q 0 ls st h := z_jr bX6_isDay_0 bX6_isDay_0_ok hr g
theorem dX6_isDay_5 : decode cX6_isDay 5 = .ok (.invokestatic 72, 3) := by decide +kernel
theorem iX6_isDay_5 (ha : z_args 3 st [] = some (As, rest)) (hc : z_chk rest As 3 = true) (hR : z_rm R R' 3 k n) (gc : z_J Z mX6_in R' 0 0 Q' 0 As [] h) (kr : ∀ (v : Option Value) (h' : zH), Q' (.inl v) h' → z_J Z mX6_isDay R (k + R'.cells) (n + R'.slots) Q 8 ls (v.toList ++ rest) h') (kx : ∀ (E : String) (h' : zH), Q' (.inr E) h' → z_JX Z mX6_isDay R (k + R'.cells) (n + R'.slots) Q 5 ls E h') : z_J Z mX6_isDay R k n Q 5 ls st h := z_callS (M' := mX6_in) dX6_isDay_5 rfl cs_X6_72 gw801 ha hR (z_chk1 hc) (z_chk2 hc) (z_chk3 hc) gc kr kx
theorem dX6_isDay_8 : decode cX6_isDay 8 = .ok (.ireturn, 1) := by decide +kernel
theorem iX6_isDay_8 (hz : narrow .boolean (.int x) = .int x) (hk : k ≤ R.cells) (hs : n ≤ R.slots) (hq : Q (.inl (some (.int x))) h) : z_J Z mX6_isDay R k n Q 8 ls [.int x] h := z_iret (ty := .boolean) dX6_isDay_8 rfl hz hk hs hq
/-! X6_addRight -/
def bX6_addRight_0 : zB := [(0, .iload_n 1, 1, nI 0), (1, .iconst 1, 2, nI 1), (2, .bipush 31, 4, nI 31)]
theorem bX6_addRight_0_ok : z_ok cX6_addRight 0 bX6_addRight_0 4 = true := by decide +kernel
theorem iX6_addRight_0 (hr : z_run 7 bX6_addRight_0 ls st = some (ls', st')) (g : z_J Z mX6_addRight R k n Q 4 ls' st' h) : z_J Z mX6_addRight R k n Q 0 ls st h := z_jr bX6_addRight_0 bX6_addRight_0_ok hr g
theorem dX6_addRight_4 : decode cX6_addRight 4 = .ok (.invokestatic 72, 3) := by decide +kernel
theorem iX6_addRight_4 (ha : z_args 3 st [] = some (As, rest)) (hc : z_chk rest As 3 = true) (hR : z_rm R R' 3 k n) (gc : z_J Z mX6_in R' 0 0 Q' 0 As [] h) (kr : ∀ (v : Option Value) (h' : zH), Q' (.inl v) h' → z_J Z mX6_addRight R (k + R'.cells) (n + R'.slots) Q 7 ls (v.toList ++ rest) h') (kx : ∀ (E : String) (h' : zH), Q' (.inr E) h' → z_JX Z mX6_addRight R (k + R'.cells) (n + R'.slots) Q 4 ls E h') : z_J Z mX6_addRight R k n Q 4 ls st h := z_callS (M' := mX6_in) dX6_addRight_4 rfl cs_X6_72 gw801 ha hR (z_chk1 hc) (z_chk2 hc) (z_chk3 hc) gc kr kx
theorem dX6_addRight_7 : decode cX6_addRight 7 = .ok (.ifCond .eq 52, 3) := by decide +kernel
theorem iX6_addRight_7 (kt : x = 0 → z_J Z mX6_addRight R k n Q 59 ls st h) (kf : ¬ x = 0 → z_J Z mX6_addRight R k n Q 10 ls st h) : z_J Z mX6_addRight R k n Q 7 ls (.int x :: st) h := z_if_eq dX6_addRight_7 (tgt := 59) (by decide) rfl kt kf
def bX6_addRight_10 : zB := [(10, .iload_n 2, 11, nI 0), (11, .iconst 1, 12, nI 1), (12, .bipush 9, 14, nI 9)]
theorem bX6_addRight_10_ok : z_ok cX6_addRight 10 bX6_addRight_10 14 = true := by decide +kernel
theorem iX6_addRight_10 (hr : z_run 7 bX6_addRight_10 ls st = some (ls', st')) (g : z_J Z mX6_addRight R k n Q 14 ls' st' h) : z_J Z mX6_addRight R k n Q 10 ls st h := z_jr bX6_addRight_10 bX6_addRight_10_ok hr g
theorem dX6_addRight_14 : decode cX6_addRight 14 = .ok (.invokestatic 72, 3) := by decide +kernel
theorem iX6_addRight_14 (ha : z_args 3 st [] = some (As, rest)) (hc : z_chk rest As 3 = true) (hR : z_rm R R' 3 k n) (gc : z_J Z mX6_in R' 0 0 Q' 0 As [] h) (kr : ∀ (v : Option Value) (h' : zH), Q' (.inl v) h' → z_J Z mX6_addRight R (k + R'.cells) (n + R'.slots) Q 17 ls (v.toList ++ rest) h') (kx : ∀ (E : String) (h' : zH), Q' (.inr E) h' → z_JX Z mX6_addRight R (k + R'.cells) (n + R'.slots) Q 14 ls E h') : z_J Z mX6_addRight R k n Q 14 ls st h := z_callS (M' := mX6_in) dX6_addRight_14 rfl cs_X6_72 gw801 ha hR (z_chk1 hc) (z_chk2 hc) (z_chk3 hc) gc kr kx
theorem dX6_addRight_17 : decode cX6_addRight 17 = .ok (.ifCond .eq 42, 3) := by decide +kernel
theorem iX6_addRight_17 (kt : x = 0 → z_J Z mX6_addRight R k n Q 59 ls st h) (kf : ¬ x = 0 → z_J Z mX6_addRight R k n Q 20 ls st h) : z_J Z mX6_addRight R k n Q 17 ls (.int x :: st) h := z_if_eq dX6_addRight_17 (tgt := 59) (by decide) rfl kt kf
def bX6_addRight_20 : zB := [(20, .iload_n 3, 21, nI 0), (21, .iconst 1, 22, nI 1), (22, .bipush 100, 24, nI 100)]
theorem bX6_addRight_20_ok : z_ok cX6_addRight 20 bX6_addRight_20 24 = true := by decide +kernel
theorem iX6_addRight_20 (hr : z_run 7 bX6_addRight_20 ls st = some (ls', st')) (g : z_J Z mX6_addRight R k n Q 24 ls' st' h) : z_J Z mX6_addRight R k n Q 20 ls st h := z_jr bX6_addRight_20 bX6_addRight_20_ok hr g
theorem dX6_addRight_24 : decode cX6_addRight 24 = .ok (.invokestatic 72, 3) := by decide +kernel
theorem iX6_addRight_24 (ha : z_args 3 st [] = some (As, rest)) (hc : z_chk rest As 3 = true) (hR : z_rm R R' 3 k n) (gc : z_J Z mX6_in R' 0 0 Q' 0 As [] h) (kr : ∀ (v : Option Value) (h' : zH), Q' (.inl v) h' → z_J Z mX6_addRight R (k + R'.cells) (n + R'.slots) Q 27 ls (v.toList ++ rest) h') (kx : ∀ (E : String) (h' : zH), Q' (.inr E) h' → z_JX Z mX6_addRight R (k + R'.cells) (n + R'.slots) Q 24 ls E h') : z_J Z mX6_addRight R k n Q 24 ls st h := z_callS (M' := mX6_in) dX6_addRight_24 rfl cs_X6_72 gw801 ha hR (z_chk1 hc) (z_chk2 hc) (z_chk3 hc) gc kr kx
theorem dX6_addRight_27 : decode cX6_addRight 27 = .ok (.ifCond .eq 32, 3) := by decide +kernel
theorem iX6_addRight_27 (kt : x = 0 → z_J Z mX6_addRight R k n Q 59 ls st h) (kf : ¬ x = 0 → z_J Z mX6_addRight R k n Q 30 ls st h) : z_J Z mX6_addRight R k n Q 27 ls (.int x :: st) h := z_if_eq dX6_addRight_27 (tgt := 59) (by decide) rfl kt kf
def bX6_addRight_30 : zB := [(30, .iload 4, 32, nI 0), (32, .iconst 0, 33, nI 0), (33, .sipush 720, 36, nI 720)]
theorem bX6_addRight_30_ok : z_ok cX6_addRight 30 bX6_addRight_30 36 = true := by decide +kernel
theorem iX6_addRight_30 (hr : z_run 7 bX6_addRight_30 ls st = some (ls', st')) (g : z_J Z mX6_addRight R k n Q 36 ls' st' h) : z_J Z mX6_addRight R k n Q 30 ls st h := z_jr bX6_addRight_30 bX6_addRight_30_ok hr g
theorem dX6_addRight_36 : decode cX6_addRight 36 = .ok (.invokestatic 72, 3) := by decide +kernel
theorem iX6_addRight_36 (ha : z_args 3 st [] = some (As, rest)) (hc : z_chk rest As 3 = true) (hR : z_rm R R' 3 k n) (gc : z_J Z mX6_in R' 0 0 Q' 0 As [] h) (kr : ∀ (v : Option Value) (h' : zH), Q' (.inl v) h' → z_J Z mX6_addRight R (k + R'.cells) (n + R'.slots) Q 39 ls (v.toList ++ rest) h') (kx : ∀ (E : String) (h' : zH), Q' (.inr E) h' → z_JX Z mX6_addRight R (k + R'.cells) (n + R'.slots) Q 36 ls E h') : z_J Z mX6_addRight R k n Q 36 ls st h := z_callS (M' := mX6_in) dX6_addRight_36 rfl cs_X6_72 gw801 ha hR (z_chk1 hc) (z_chk2 hc) (z_chk3 hc) gc kr kx
theorem dX6_addRight_39 : decode cX6_addRight 39 = .ok (.ifCond .eq 20, 3) := by decide +kernel
theorem iX6_addRight_39 (kt : x = 0 → z_J Z mX6_addRight R k n Q 59 ls st h) (kf : ¬ x = 0 → z_J Z mX6_addRight R k n Q 42 ls st h) : z_J Z mX6_addRight R k n Q 39 ls (.int x :: st) h := z_if_eq dX6_addRight_39 (tgt := 59) (by decide) rfl kt kf
def bX6_addRight_42 : zB := [(42, .iload 5, 44, nI 0), (44, .iload 4, 46, nI 0), (46, .sipush 720, 49, nI 720)]
theorem bX6_addRight_42_ok : z_ok cX6_addRight 42 bX6_addRight_42 49 = true := by decide +kernel
theorem iX6_addRight_42 (hr : z_run 7 bX6_addRight_42 ls st = some (ls', st')) (g : z_J Z mX6_addRight R k n Q 49 ls' st' h) : z_J Z mX6_addRight R k n Q 42 ls st h := z_jr bX6_addRight_42 bX6_addRight_42_ok hr g
theorem dX6_addRight_49 : decode cX6_addRight 49 = .ok (.invokestatic 72, 3) := by decide +kernel
theorem iX6_addRight_49 (ha : z_args 3 st [] = some (As, rest)) (hc : z_chk rest As 3 = true) (hR : z_rm R R' 3 k n) (gc : z_J Z mX6_in R' 0 0 Q' 0 As [] h) (kr : ∀ (v : Option Value) (h' : zH), Q' (.inl v) h' → z_J Z mX6_addRight R (k + R'.cells) (n + R'.slots) Q 52 ls (v.toList ++ rest) h') (kx : ∀ (E : String) (h' : zH), Q' (.inr E) h' → z_JX Z mX6_addRight R (k + R'.cells) (n + R'.slots) Q 49 ls E h') : z_J Z mX6_addRight R k n Q 49 ls st h := z_callS (M' := mX6_in) dX6_addRight_49 rfl cs_X6_72 gw801 ha hR (z_chk1 hc) (z_chk2 hc) (z_chk3 hc) gc kr kx
theorem dX6_addRight_52 : decode cX6_addRight 52 = .ok (.ifCond .eq 7, 3) := by decide +kernel
theorem iX6_addRight_52 (kt : x = 0 → z_J Z mX6_addRight R k n Q 59 ls st h) (kf : ¬ x = 0 → z_J Z mX6_addRight R k n Q 55 ls st h) : z_J Z mX6_addRight R k n Q 52 ls (.int x :: st) h := z_if_eq dX6_addRight_52 (tgt := 59) (by decide) rfl kt kf
def bX6_addRight_55 : zB := [(55, .iconst 1, 56, nI 1), (56, .goto 4, 60, nI 0)]
theorem bX6_addRight_55_ok : z_ok cX6_addRight 55 bX6_addRight_55 60 = true := by decide +kernel
theorem iX6_addRight_55 (hr : z_run 7 bX6_addRight_55 ls st = some (ls', st')) (g : z_J Z mX6_addRight R k n Q 60 ls' st' h) : z_J Z mX6_addRight R k n Q 55 ls st h := z_jr bX6_addRight_55 bX6_addRight_55_ok hr g
def bX6_addRight_59 : zB := [(59, .iconst 0, 60, nI 0)]
theorem bX6_addRight_59_ok : z_ok cX6_addRight 59 bX6_addRight_59 60 = true := by decide +kernel
theorem iX6_addRight_59 (hr : z_run 7 bX6_addRight_59 ls st = some (ls', st')) (g : z_J Z mX6_addRight R k n Q 60 ls' st' h) : z_J Z mX6_addRight R k n Q 59 ls st h := z_jr bX6_addRight_59 bX6_addRight_59_ok hr g
def bX6_addRight_60 : zB := [(60, .istore 6, 62, nI 0), (62, .aload_n 0, 63, nI 0), (63, .iload 6, 65, nI 0)]
theorem bX6_addRight_60_ok : z_ok cX6_addRight 60 bX6_addRight_60 65 = true := by decide +kernel
theorem iX6_addRight_60 (hr : z_run 7 bX6_addRight_60 ls st = some (ls', st')) (g : z_J Z mX6_addRight R k n Q 65 ls' st' h) : z_J Z mX6_addRight R k n Q 60 ls st h := z_jr bX6_addRight_60 bX6_addRight_60_ok hr g
theorem dX6_addRight_65 : decode cX6_addRight 65 = .ok (.ifCond .ne 7, 3) := by decide +kernel
theorem iX6_addRight_65 (kt : ¬ x = 0 → z_J Z mX6_addRight R k n Q 72 ls st h) (kf : x = 0 → z_J Z mX6_addRight R k n Q 68 ls st h) : z_J Z mX6_addRight R k n Q 65 ls (.int x :: st) h := z_if_ne dX6_addRight_65 (tgt := 72) (by decide) rfl kt kf
def bX6_addRight_68 : zB := [(68, .iconst 1, 69, nI 1), (69, .goto 17, 86, nI 0)]
theorem bX6_addRight_68_ok : z_ok cX6_addRight 68 bX6_addRight_68 86 = true := by decide +kernel
theorem iX6_addRight_68 (hr : z_run 7 bX6_addRight_68 ls st = some (ls', st')) (g : z_J Z mX6_addRight R k n Q 86 ls' st' h) : z_J Z mX6_addRight R k n Q 68 ls st h := z_jr bX6_addRight_68 bX6_addRight_68_ok hr g
def bX6_addRight_72 : zB := [(72, .aload_n 0, 73, nI 0)]
theorem bX6_addRight_72_ok : z_ok cX6_addRight 72 bX6_addRight_72 73 = true := by decide +kernel
theorem iX6_addRight_72 (hr : z_run 7 bX6_addRight_72 ls st = some (ls', st')) (g : z_J Z mX6_addRight R k n Q 73 ls' st' h) : z_J Z mX6_addRight R k n Q 72 ls st h := z_jr bX6_addRight_72 bX6_addRight_72_ok hr g
theorem dX6_addRight_73 : decode cX6_addRight 73 = .ok (.getfield 79, 3) := by decide +kernel
theorem iX6_addRight_73 (hh : h r = some (a, .inr (7, fs))) (hv : fs[1]? = some v) (g : z_J Z mX6_addRight R k n Q 76 ls (v :: st) h) : z_J Z mX6_addRight R k n Q 73 ls (.ref a :: st) h := z_get dX6_addRight_73 rfl fl_X6_79 hh hv g
def bX6_addRight_76 : zB := [(76, .bipush 10, 78, nI 10)]
theorem bX6_addRight_76_ok : z_ok cX6_addRight 76 bX6_addRight_76 78 = true := by decide +kernel
theorem iX6_addRight_76 (hr : z_run 7 bX6_addRight_76 ls st = some (ls', st')) (g : z_J Z mX6_addRight R k n Q 78 ls' st' h) : z_J Z mX6_addRight R k n Q 76 ls st h := z_jr bX6_addRight_76 bX6_addRight_76_ok hr g
theorem dX6_addRight_78 : decode cX6_addRight 78 = .ok (.if_icmp .ne 7, 3) := by decide +kernel
theorem iX6_addRight_78 (kt : ¬ x = y → z_J Z mX6_addRight R k n Q 85 ls st h) (kf : x = y → z_J Z mX6_addRight R k n Q 81 ls st h) : z_J Z mX6_addRight R k n Q 78 ls (.int y :: .int x :: st) h := z_ic_ne dX6_addRight_78 (tgt := 85) (by decide) rfl kt kf
def bX6_addRight_81 : zB := [(81, .iconst 2, 82, nI 2), (82, .goto 4, 86, nI 0)]
theorem bX6_addRight_81_ok : z_ok cX6_addRight 81 bX6_addRight_81 86 = true := by decide +kernel
theorem iX6_addRight_81 (hr : z_run 7 bX6_addRight_81 ls st = some (ls', st')) (g : z_J Z mX6_addRight R k n Q 86 ls' st' h) : z_J Z mX6_addRight R k n Q 81 ls st h := z_jr bX6_addRight_81 bX6_addRight_81_ok hr g
def bX6_addRight_85 : zB := [(85, .iconst 0, 86, nI 0)]
theorem bX6_addRight_85_ok : z_ok cX6_addRight 85 bX6_addRight_85 86 = true := by decide +kernel
theorem iX6_addRight_85 (hr : z_run 7 bX6_addRight_85 ls st = some (ls', st')) (g : z_J Z mX6_addRight R k n Q 86 ls' st' h) : z_J Z mX6_addRight R k n Q 85 ls st h := z_jr bX6_addRight_85 bX6_addRight_85_ok hr g
theorem dX6_addRight_86 : decode cX6_addRight 86 = .ok (.putfield 68, 3) := by decide +kernel
theorem iX6_addRight_86 (hh : h r = some (a, .inr (7, fs))) (hl : Nat.blt 0 fs.length = true) (g : z_J Z mX6_addRight R k n Q 89 ls st (z_u h r (a, .inr (7, fs.set 0 (.int x))))) : z_J Z mX6_addRight R k n Q 86 ls ((.int x) :: .ref a :: st) h := z_put dX6_addRight_86 rfl fl_X6_68 fw_X6_0 rfl hh rfl rfl (by simpa [Nat.blt_eq] using hl) g
def bX6_addRight_89 : zB := [(89, .aload_n 0, 90, nI 0)]
theorem bX6_addRight_89_ok : z_ok cX6_addRight 89 bX6_addRight_89 90 = true := by decide +kernel
theorem iX6_addRight_89 (hr : z_run 7 bX6_addRight_89 ls st = some (ls', st')) (g : z_J Z mX6_addRight R k n Q 90 ls' st' h) : z_J Z mX6_addRight R k n Q 89 ls st h := z_jr bX6_addRight_89 bX6_addRight_89_ok hr g
theorem dX6_addRight_90 : decode cX6_addRight 90 = .ok (.getfield 68, 3) := by decide +kernel
theorem iX6_addRight_90 (hh : h r = some (a, .inr (7, fs))) (hv : fs[0]? = some v) (g : z_J Z mX6_addRight R k n Q 93 ls (v :: st) h) : z_J Z mX6_addRight R k n Q 90 ls (.ref a :: st) h := z_get dX6_addRight_90 rfl fl_X6_68 hh hv g
theorem dX6_addRight_93 : decode cX6_addRight 93 = .ok (.ifCond .le 5, 3) := by decide +kernel
theorem iX6_addRight_93 (kt : x ≤ 0 → z_J Z mX6_addRight R k n Q 98 ls st h) (kf : ¬ x ≤ 0 → z_J Z mX6_addRight R k n Q 96 ls st h) : z_J Z mX6_addRight R k n Q 93 ls (.int x :: st) h := z_if_le dX6_addRight_93 (tgt := 98) (by decide) rfl kt kf
def bX6_addRight_96 : zB := [(96, .iconst 0, 97, nI 0)]
theorem bX6_addRight_96_ok : z_ok cX6_addRight 96 bX6_addRight_96 97 = true := by decide +kernel
theorem iX6_addRight_96 (hr : z_run 7 bX6_addRight_96 ls st = some (ls', st')) (g : z_J Z mX6_addRight R k n Q 97 ls' st' h) : z_J Z mX6_addRight R k n Q 96 ls st h := z_jr bX6_addRight_96 bX6_addRight_96_ok hr g
theorem dX6_addRight_97 : decode cX6_addRight 97 = .ok (.ireturn, 1) := by decide +kernel
theorem iX6_addRight_97 (hk : k ≤ R.cells) (hs : n ≤ R.slots) (hq : Q (.inl (some (.int x))) h) : z_J Z mX6_addRight R k n Q 97 ls [.int x] h := z_iret (ty := .int) dX6_addRight_97 rfl rfl hk hs hq
def bX6_addRight_98 : zB := [(98, .aload_n 0, 99, nI 0)]
theorem bX6_addRight_98_ok : z_ok cX6_addRight 98 bX6_addRight_98 99 = true := by decide +kernel
theorem iX6_addRight_98 (hr : z_run 7 bX6_addRight_98 ls st = some (ls', st')) (g : z_J Z mX6_addRight R k n Q 99 ls' st' h) : z_J Z mX6_addRight R k n Q 98 ls st h := z_jr bX6_addRight_98 bX6_addRight_98_ok hr g
theorem dX6_addRight_99 : decode cX6_addRight 99 = .ok (.getfield 7, 3) := by decide +kernel
theorem iX6_addRight_99 (hh : h r = some (a, .inr (7, fs))) (hv : fs[2]? = some v) (g : z_J Z mX6_addRight R k n Q 102 ls (v :: st) h) : z_J Z mX6_addRight R k n Q 99 ls (.ref a :: st) h := z_get dX6_addRight_99 rfl fl_X6_7 hh hv g
def bX6_addRight_102 : zB := [(102, .aload_n 0, 103, nI 0)]
theorem bX6_addRight_102_ok : z_ok cX6_addRight 102 bX6_addRight_102 103 = true := by decide +kernel
theorem iX6_addRight_102 (hr : z_run 7 bX6_addRight_102 ls st = some (ls', st')) (g : z_J Z mX6_addRight R k n Q 103 ls' st' h) : z_J Z mX6_addRight R k n Q 102 ls st h := z_jr bX6_addRight_102 bX6_addRight_102_ok hr g
theorem dX6_addRight_103 : decode cX6_addRight 103 = .ok (.getfield 79, 3) := by decide +kernel
theorem iX6_addRight_103 (hh : h r = some (a, .inr (7, fs))) (hv : fs[1]? = some v) (g : z_J Z mX6_addRight R k n Q 106 ls (v :: st) h) : z_J Z mX6_addRight R k n Q 103 ls (.ref a :: st) h := z_get dX6_addRight_103 rfl fl_X6_79 hh hv g
def bX6_addRight_106 : zB := [(106, .iload_n 1, 107, nI 0)]
theorem bX6_addRight_106_ok : z_ok cX6_addRight 106 bX6_addRight_106 107 = true := by decide +kernel
theorem iX6_addRight_106 (hr : z_run 7 bX6_addRight_106 ls st = some (ls', st')) (g : z_J Z mX6_addRight R k n Q 107 ls' st' h) : z_J Z mX6_addRight R k n Q 106 ls st h := z_jr bX6_addRight_106 bX6_addRight_106_ok hr g
theorem dX6_addRight_107 : decode cX6_addRight 107 = .ok (.iastore, 1) := by decide +kernel
theorem iX6_addRight_107 {f : Nat → Int32} (hh : h r = some (a, .inl (0, N, .inl f))) (hi : i = nI j) (hj : j < N) (hN : N < 2 ^ 31) (g : z_J Z mX6_addRight R k n Q 108 ls st (z_u h r (a, .inl (0, N, .inl (upd f j x))))) : z_J Z mX6_addRight R k n Q 107 ls (.int x :: .int i :: .ref a :: st) h := z_iast dX6_addRight_107 rfl hh hi hj hN g
def bX6_addRight_108 : zB := [(108, .aload_n 0, 109, nI 0)]
theorem bX6_addRight_108_ok : z_ok cX6_addRight 108 bX6_addRight_108 109 = true := by decide +kernel
theorem iX6_addRight_108 (hr : z_run 7 bX6_addRight_108 ls st = some (ls', st')) (g : z_J Z mX6_addRight R k n Q 109 ls' st' h) : z_J Z mX6_addRight R k n Q 108 ls st h := z_jr bX6_addRight_108 bX6_addRight_108_ok hr g
theorem dX6_addRight_109 : decode cX6_addRight 109 = .ok (.getfield 13, 3) := by decide +kernel
theorem iX6_addRight_109 (hh : h r = some (a, .inr (7, fs))) (hv : fs[3]? = some v) (g : z_J Z mX6_addRight R k n Q 112 ls (v :: st) h) : z_J Z mX6_addRight R k n Q 109 ls (.ref a :: st) h := z_get dX6_addRight_109 rfl fl_X6_13 hh hv g
def bX6_addRight_112 : zB := [(112, .aload_n 0, 113, nI 0)]
theorem bX6_addRight_112_ok : z_ok cX6_addRight 112 bX6_addRight_112 113 = true := by decide +kernel
theorem iX6_addRight_112 (hr : z_run 7 bX6_addRight_112 ls st = some (ls', st')) (g : z_J Z mX6_addRight R k n Q 113 ls' st' h) : z_J Z mX6_addRight R k n Q 112 ls st h := z_jr bX6_addRight_112 bX6_addRight_112_ok hr g
theorem dX6_addRight_113 : decode cX6_addRight 113 = .ok (.getfield 79, 3) := by decide +kernel
theorem iX6_addRight_113 (hh : h r = some (a, .inr (7, fs))) (hv : fs[1]? = some v) (g : z_J Z mX6_addRight R k n Q 116 ls (v :: st) h) : z_J Z mX6_addRight R k n Q 113 ls (.ref a :: st) h := z_get dX6_addRight_113 rfl fl_X6_79 hh hv g
def bX6_addRight_116 : zB := [(116, .iload_n 2, 117, nI 0)]
theorem bX6_addRight_116_ok : z_ok cX6_addRight 116 bX6_addRight_116 117 = true := by decide +kernel
theorem iX6_addRight_116 (hr : z_run 7 bX6_addRight_116 ls st = some (ls', st')) (g : z_J Z mX6_addRight R k n Q 117 ls' st' h) : z_J Z mX6_addRight R k n Q 116 ls st h := z_jr bX6_addRight_116 bX6_addRight_116_ok hr g
theorem dX6_addRight_117 : decode cX6_addRight 117 = .ok (.iastore, 1) := by decide +kernel
theorem iX6_addRight_117 {f : Nat → Int32} (hh : h r = some (a, .inl (0, N, .inl f))) (hi : i = nI j) (hj : j < N) (hN : N < 2 ^ 31) (g : z_J Z mX6_addRight R k n Q 118 ls st (z_u h r (a, .inl (0, N, .inl (upd f j x))))) : z_J Z mX6_addRight R k n Q 117 ls (.int x :: .int i :: .ref a :: st) h := z_iast dX6_addRight_117 rfl hh hi hj hN g
def bX6_addRight_118 : zB := [(118, .aload_n 0, 119, nI 0)]
theorem bX6_addRight_118_ok : z_ok cX6_addRight 118 bX6_addRight_118 119 = true := by decide +kernel
theorem iX6_addRight_118 (hr : z_run 7 bX6_addRight_118 ls st = some (ls', st')) (g : z_J Z mX6_addRight R k n Q 119 ls' st' h) : z_J Z mX6_addRight R k n Q 118 ls st h := z_jr bX6_addRight_118 bX6_addRight_118_ok hr g
theorem dX6_addRight_119 : decode cX6_addRight 119 = .ok (.getfield 16, 3) := by decide +kernel
theorem iX6_addRight_119 (hh : h r = some (a, .inr (7, fs))) (hv : fs[4]? = some v) (g : z_J Z mX6_addRight R k n Q 122 ls (v :: st) h) : z_J Z mX6_addRight R k n Q 119 ls (.ref a :: st) h := z_get dX6_addRight_119 rfl fl_X6_16 hh hv g
def bX6_addRight_122 : zB := [(122, .aload_n 0, 123, nI 0)]
theorem bX6_addRight_122_ok : z_ok cX6_addRight 122 bX6_addRight_122 123 = true := by decide +kernel
theorem iX6_addRight_122 (hr : z_run 7 bX6_addRight_122 ls st = some (ls', st')) (g : z_J Z mX6_addRight R k n Q 123 ls' st' h) : z_J Z mX6_addRight R k n Q 122 ls st h := z_jr bX6_addRight_122 bX6_addRight_122_ok hr g
theorem dX6_addRight_123 : decode cX6_addRight 123 = .ok (.getfield 79, 3) := by decide +kernel
theorem iX6_addRight_123 (hh : h r = some (a, .inr (7, fs))) (hv : fs[1]? = some v) (g : z_J Z mX6_addRight R k n Q 126 ls (v :: st) h) : z_J Z mX6_addRight R k n Q 123 ls (.ref a :: st) h := z_get dX6_addRight_123 rfl fl_X6_79 hh hv g
def bX6_addRight_126 : zB := [(126, .iload_n 3, 127, nI 0)]
theorem bX6_addRight_126_ok : z_ok cX6_addRight 126 bX6_addRight_126 127 = true := by decide +kernel
theorem iX6_addRight_126 (hr : z_run 7 bX6_addRight_126 ls st = some (ls', st')) (g : z_J Z mX6_addRight R k n Q 127 ls' st' h) : z_J Z mX6_addRight R k n Q 126 ls st h := z_jr bX6_addRight_126 bX6_addRight_126_ok hr g
theorem dX6_addRight_127 : decode cX6_addRight 127 = .ok (.iastore, 1) := by decide +kernel
theorem iX6_addRight_127 {f : Nat → Int32} (hh : h r = some (a, .inl (0, N, .inl f))) (hi : i = nI j) (hj : j < N) (hN : N < 2 ^ 31) (g : z_J Z mX6_addRight R k n Q 128 ls st (z_u h r (a, .inl (0, N, .inl (upd f j x))))) : z_J Z mX6_addRight R k n Q 127 ls (.int x :: .int i :: .ref a :: st) h := z_iast dX6_addRight_127 rfl hh hi hj hN g
def bX6_addRight_128 : zB := [(128, .aload_n 0, 129, nI 0)]
theorem bX6_addRight_128_ok : z_ok cX6_addRight 128 bX6_addRight_128 129 = true := by decide +kernel
theorem iX6_addRight_128 (hr : z_run 7 bX6_addRight_128 ls st = some (ls', st')) (g : z_J Z mX6_addRight R k n Q 129 ls' st' h) : z_J Z mX6_addRight R k n Q 128 ls st h := z_jr bX6_addRight_128 bX6_addRight_128_ok hr g
theorem dX6_addRight_129 : decode cX6_addRight 129 = .ok (.getfield 19, 3) := by decide +kernel
theorem iX6_addRight_129 (hh : h r = some (a, .inr (7, fs))) (hv : fs[5]? = some v) (g : z_J Z mX6_addRight R k n Q 132 ls (v :: st) h) : z_J Z mX6_addRight R k n Q 129 ls (.ref a :: st) h := z_get dX6_addRight_129 rfl fl_X6_19 hh hv g
def bX6_addRight_132 : zB := [(132, .aload_n 0, 133, nI 0)]
theorem bX6_addRight_132_ok : z_ok cX6_addRight 132 bX6_addRight_132 133 = true := by decide +kernel
theorem iX6_addRight_132 (hr : z_run 7 bX6_addRight_132 ls st = some (ls', st')) (g : z_J Z mX6_addRight R k n Q 133 ls' st' h) : z_J Z mX6_addRight R k n Q 132 ls st h := z_jr bX6_addRight_132 bX6_addRight_132_ok hr g
theorem dX6_addRight_133 : decode cX6_addRight 133 = .ok (.getfield 79, 3) := by decide +kernel
theorem iX6_addRight_133 (hh : h r = some (a, .inr (7, fs))) (hv : fs[1]? = some v) (g : z_J Z mX6_addRight R k n Q 136 ls (v :: st) h) : z_J Z mX6_addRight R k n Q 133 ls (.ref a :: st) h := z_get dX6_addRight_133 rfl fl_X6_79 hh hv g
def bX6_addRight_136 : zB := [(136, .iload 4, 138, nI 0)]
theorem bX6_addRight_136_ok : z_ok cX6_addRight 136 bX6_addRight_136 138 = true := by decide +kernel
theorem iX6_addRight_136 (hr : z_run 7 bX6_addRight_136 ls st = some (ls', st')) (g : z_J Z mX6_addRight R k n Q 138 ls' st' h) : z_J Z mX6_addRight R k n Q 136 ls st h := z_jr bX6_addRight_136 bX6_addRight_136_ok hr g
theorem dX6_addRight_138 : decode cX6_addRight 138 = .ok (.iastore, 1) := by decide +kernel
theorem iX6_addRight_138 {f : Nat → Int32} (hh : h r = some (a, .inl (0, N, .inl f))) (hi : i = nI j) (hj : j < N) (hN : N < 2 ^ 31) (g : z_J Z mX6_addRight R k n Q 139 ls st (z_u h r (a, .inl (0, N, .inl (upd f j x))))) : z_J Z mX6_addRight R k n Q 138 ls (.int x :: .int i :: .ref a :: st) h := z_iast dX6_addRight_138 rfl hh hi hj hN g
def bX6_addRight_139 : zB := [(139, .aload_n 0, 140, nI 0)]
theorem bX6_addRight_139_ok : z_ok cX6_addRight 139 bX6_addRight_139 140 = true := by decide +kernel
theorem iX6_addRight_139 (hr : z_run 7 bX6_addRight_139 ls st = some (ls', st')) (g : z_J Z mX6_addRight R k n Q 140 ls' st' h) : z_J Z mX6_addRight R k n Q 139 ls st h := z_jr bX6_addRight_139 bX6_addRight_139_ok hr g
theorem dX6_addRight_140 : decode cX6_addRight 140 = .ok (.getfield 22, 3) := by decide +kernel
theorem iX6_addRight_140 (hh : h r = some (a, .inr (7, fs))) (hv : fs[6]? = some v) (g : z_J Z mX6_addRight R k n Q 143 ls (v :: st) h) : z_J Z mX6_addRight R k n Q 140 ls (.ref a :: st) h := z_get dX6_addRight_140 rfl fl_X6_22 hh hv g
def bX6_addRight_143 : zB := [(143, .aload_n 0, 144, nI 0)]
theorem bX6_addRight_143_ok : z_ok cX6_addRight 143 bX6_addRight_143 144 = true := by decide +kernel
theorem iX6_addRight_143 (hr : z_run 7 bX6_addRight_143 ls st = some (ls', st')) (g : z_J Z mX6_addRight R k n Q 144 ls' st' h) : z_J Z mX6_addRight R k n Q 143 ls st h := z_jr bX6_addRight_143 bX6_addRight_143_ok hr g
theorem dX6_addRight_144 : decode cX6_addRight 144 = .ok (.getfield 79, 3) := by decide +kernel
theorem iX6_addRight_144 (hh : h r = some (a, .inr (7, fs))) (hv : fs[1]? = some v) (g : z_J Z mX6_addRight R k n Q 147 ls (v :: st) h) : z_J Z mX6_addRight R k n Q 144 ls (.ref a :: st) h := z_get dX6_addRight_144 rfl fl_X6_79 hh hv g
def bX6_addRight_147 : zB := [(147, .iload 5, 149, nI 0)]
theorem bX6_addRight_147_ok : z_ok cX6_addRight 147 bX6_addRight_147 149 = true := by decide +kernel
theorem iX6_addRight_147 (hr : z_run 7 bX6_addRight_147 ls st = some (ls', st')) (g : z_J Z mX6_addRight R k n Q 149 ls' st' h) : z_J Z mX6_addRight R k n Q 147 ls st h := z_jr bX6_addRight_147 bX6_addRight_147_ok hr g
theorem dX6_addRight_149 : decode cX6_addRight 149 = .ok (.iastore, 1) := by decide +kernel
theorem iX6_addRight_149 {f : Nat → Int32} (hh : h r = some (a, .inl (0, N, .inl f))) (hi : i = nI j) (hj : j < N) (hN : N < 2 ^ 31) (g : z_J Z mX6_addRight R k n Q 150 ls st (z_u h r (a, .inl (0, N, .inl (upd f j x))))) : z_J Z mX6_addRight R k n Q 149 ls (.int x :: .int i :: .ref a :: st) h := z_iast dX6_addRight_149 rfl hh hi hj hN g
def bX6_addRight_150 : zB := [(150, .aload_n 0, 151, nI 0), (151, .dup, 152, nI 0)]
theorem bX6_addRight_150_ok : z_ok cX6_addRight 150 bX6_addRight_150 152 = true := by decide +kernel
theorem iX6_addRight_150 (hr : z_run 7 bX6_addRight_150 ls st = some (ls', st')) (g : z_J Z mX6_addRight R k n Q 152 ls' st' h) : z_J Z mX6_addRight R k n Q 150 ls st h := z_jr bX6_addRight_150 bX6_addRight_150_ok hr g
theorem dX6_addRight_152 : decode cX6_addRight 152 = .ok (.getfield 79, 3) := by decide +kernel
theorem iX6_addRight_152 (hh : h r = some (a, .inr (7, fs))) (hv : fs[1]? = some v) (g : z_J Z mX6_addRight R k n Q 155 ls (v :: st) h) : z_J Z mX6_addRight R k n Q 152 ls (.ref a :: st) h := z_get dX6_addRight_152 rfl fl_X6_79 hh hv g
def bX6_addRight_155 : zB := [(155, .iconst 1, 156, nI 1), (156, .iadd, 157, nI 0)]
theorem bX6_addRight_155_ok : z_ok cX6_addRight 155 bX6_addRight_155 157 = true := by decide +kernel
theorem iX6_addRight_155 (hr : z_run 7 bX6_addRight_155 ls st = some (ls', st')) (g : z_J Z mX6_addRight R k n Q 157 ls' st' h) : z_J Z mX6_addRight R k n Q 155 ls st h := z_jr bX6_addRight_155 bX6_addRight_155_ok hr g
theorem dX6_addRight_157 : decode cX6_addRight 157 = .ok (.putfield 79, 3) := by decide +kernel
theorem iX6_addRight_157 (hh : h r = some (a, .inr (7, fs))) (hl : Nat.blt 1 fs.length = true) (g : z_J Z mX6_addRight R k n Q 160 ls st (z_u h r (a, .inr (7, fs.set 1 (.int x))))) : z_J Z mX6_addRight R k n Q 157 ls ((.int x) :: .ref a :: st) h := z_put dX6_addRight_157 rfl fl_X6_79 fw_X6_1 rfl hh rfl rfl (by simpa [Nat.blt_eq] using hl) g
def bX6_addRight_160 : zB := [(160, .aload_n 0, 161, nI 0)]
theorem bX6_addRight_160_ok : z_ok cX6_addRight 160 bX6_addRight_160 161 = true := by decide +kernel
theorem iX6_addRight_160 (hr : z_run 7 bX6_addRight_160 ls st = some (ls', st')) (g : z_J Z mX6_addRight R k n Q 161 ls' st' h) : z_J Z mX6_addRight R k n Q 160 ls st h := z_jr bX6_addRight_160 bX6_addRight_160_ok hr g
theorem dX6_addRight_161 : decode cX6_addRight 161 = .ok (.getfield 79, 3) := by decide +kernel
theorem iX6_addRight_161 (hh : h r = some (a, .inr (7, fs))) (hv : fs[1]? = some v) (g : z_J Z mX6_addRight R k n Q 164 ls (v :: st) h) : z_J Z mX6_addRight R k n Q 161 ls (.ref a :: st) h := z_get dX6_addRight_161 rfl fl_X6_79 hh hv g
def bX6_addRight_164 : zB := [(164, .iconst 1, 165, nI 1), (165, .isub, 166, nI 0)]
theorem bX6_addRight_164_ok : z_ok cX6_addRight 164 bX6_addRight_164 166 = true := by decide +kernel
theorem iX6_addRight_164 (hr : z_run 7 bX6_addRight_164 ls st = some (ls', st')) (g : z_J Z mX6_addRight R k n Q 166 ls' st' h) : z_J Z mX6_addRight R k n Q 164 ls st h := z_jr bX6_addRight_164 bX6_addRight_164_ok hr g
theorem dX6_addRight_166 : decode cX6_addRight 166 = .ok (.ireturn, 1) := by decide +kernel
theorem iX6_addRight_166 (hk : k ≤ R.cells) (hs : n ≤ R.slots) (hq : Q (.inl (some (.int x))) h) : z_J Z mX6_addRight R k n Q 166 ls [.int x] h := z_iret (ty := .int) dX6_addRight_166 rfl rfl hk hs hq
/-! X6_isRight -/
def bX6_isRight_0 : zB := [(0, .iload_n 1, 1, nI 0), (1, .iconst 0, 2, nI 0), (2, .aload_n 0, 3, nI 0)]
theorem bX6_isRight_0_ok : z_ok cX6_isRight 0 bX6_isRight_0 3 = true := by decide +kernel
theorem iX6_isRight_0 (hr : z_run 2 bX6_isRight_0 ls st = some (ls', st')) (g : z_J Z mX6_isRight R k n Q 3 ls' st' h) : z_J Z mX6_isRight R k n Q 0 ls st h := z_jr bX6_isRight_0 bX6_isRight_0_ok hr g
theorem dX6_isRight_3 : decode cX6_isRight 3 = .ok (.getfield 79, 3) := by decide +kernel
theorem iX6_isRight_3 (hh : h r = some (a, .inr (7, fs))) (hv : fs[1]? = some v) (g : z_J Z mX6_isRight R k n Q 6 ls (v :: st) h) : z_J Z mX6_isRight R k n Q 3 ls (.ref a :: st) h := z_get dX6_isRight_3 rfl fl_X6_79 hh hv g
def bX6_isRight_6 : zB := [(6, .iconst 1, 7, nI 1), (7, .isub, 8, nI 0)]
theorem bX6_isRight_6_ok : z_ok cX6_isRight 6 bX6_isRight_6 8 = true := by decide +kernel
theorem iX6_isRight_6 (hr : z_run 2 bX6_isRight_6 ls st = some (ls', st')) (g : z_J Z mX6_isRight R k n Q 8 ls' st' h) : z_J Z mX6_isRight R k n Q 6 ls st h := z_jr bX6_isRight_6 bX6_isRight_6_ok hr g
theorem dX6_isRight_8 : decode cX6_isRight 8 = .ok (.invokestatic 72, 3) := by decide +kernel
theorem iX6_isRight_8 (ha : z_args 3 st [] = some (As, rest)) (hc : z_chk rest As 3 = true) (hR : z_rm R R' 3 k n) (gc : z_J Z mX6_in R' 0 0 Q' 0 As [] h) (kr : ∀ (v : Option Value) (h' : zH), Q' (.inl v) h' → z_J Z mX6_isRight R (k + R'.cells) (n + R'.slots) Q 11 ls (v.toList ++ rest) h') (kx : ∀ (E : String) (h' : zH), Q' (.inr E) h' → z_JX Z mX6_isRight R (k + R'.cells) (n + R'.slots) Q 8 ls E h') : z_J Z mX6_isRight R k n Q 8 ls st h := z_callS (M' := mX6_in) dX6_isRight_8 rfl cs_X6_72 gw801 ha hR (z_chk1 hc) (z_chk2 hc) (z_chk3 hc) gc kr kx
theorem dX6_isRight_11 : decode cX6_isRight 11 = .ok (.ireturn, 1) := by decide +kernel
theorem iX6_isRight_11 (hz : narrow .boolean (.int x) = .int x) (hk : k ≤ R.cells) (hs : n ≤ R.slots) (hq : Q (.inl (some (.int x))) h) : z_J Z mX6_isRight R k n Q 11 ls [.int x] h := z_iret (ty := .boolean) dX6_isRight_11 rfl hz hk hs hq
/-! X6_upgrade -/
def bX6_upgrade_0 : zB := [(0, .aload_n 0, 1, nI 0), (1, .aload_n 0, 2, nI 0), (2, .iload_n 1, 3, nI 0)]
theorem bX6_upgrade_0_ok : z_ok cX6_upgrade 0 bX6_upgrade_0 3 = true := by decide +kernel
theorem iX6_upgrade_0 (hr : z_run 4 bX6_upgrade_0 ls st = some (ls', st')) (g : z_J Z mX6_upgrade R k n Q 3 ls' st' h) : z_J Z mX6_upgrade R k n Q 0 ls st h := z_jr bX6_upgrade_0 bX6_upgrade_0_ok hr g
theorem dX6_upgrade_3 : decode cX6_upgrade 3 = .ok (.invokevirtual 82, 3) := by decide +kernel
theorem iX6_upgrade_3 (ha : z_args 1 st [] = some (As, .ref b :: rest)) (hc : z_chk rest (.ref b :: As) 2 = true) (hh : h r = some (b, .inr (7, fs))) (hR : z_rm R R' 2 k n) (gc : z_J Z mX6_isRight R' 0 0 Q' 0 (.ref b :: As) [] h) (kr : ∀ (v : Option Value) (h' : zH), Q' (.inl v) h' → z_J Z mX6_upgrade R (k + R'.cells) (n + R'.slots) Q 6 ls (v.toList ++ rest) h') (kx : ∀ (E : String) (h' : zH), Q' (.inr E) h' → z_JX Z mX6_upgrade R (k + R'.cells) (n + R'.slots) Q 3 ls E h') : z_J Z mX6_upgrade R k n Q 3 ls st h := z_callV (M' := mX6_isRight) dX6_upgrade_3 rfl cs_X6_82 rfl gw809 gwp17 ha hh (ci := 7) rfl hR (z_chk1 hc) (z_chk2 hc) (z_chk3 hc) gc kr kx
theorem dX6_upgrade_6 : decode cX6_upgrade 6 = .ok (.ifCond .ne 7, 3) := by decide +kernel
theorem iX6_upgrade_6 (kt : ¬ x = 0 → z_J Z mX6_upgrade R k n Q 13 ls st h) (kf : x = 0 → z_J Z mX6_upgrade R k n Q 9 ls st h) : z_J Z mX6_upgrade R k n Q 6 ls (.int x :: st) h := z_if_ne dX6_upgrade_6 (tgt := 13) (by decide) rfl kt kf
def bX6_upgrade_9 : zB := [(9, .iconst 1, 10, nI 1), (10, .goto 32, 42, nI 0)]
theorem bX6_upgrade_9_ok : z_ok cX6_upgrade 9 bX6_upgrade_9 42 = true := by decide +kernel
theorem iX6_upgrade_9 (hr : z_run 4 bX6_upgrade_9 ls st = some (ls', st')) (g : z_J Z mX6_upgrade R k n Q 42 ls' st' h) : z_J Z mX6_upgrade R k n Q 9 ls st h := z_jr bX6_upgrade_9 bX6_upgrade_9_ok hr g
def bX6_upgrade_13 : zB := [(13, .iload_n 2, 14, nI 0), (14, .iconst 1, 15, nI 1), (15, .bipush 9, 17, nI 9)]
theorem bX6_upgrade_13_ok : z_ok cX6_upgrade 13 bX6_upgrade_13 17 = true := by decide +kernel
theorem iX6_upgrade_13 (hr : z_run 4 bX6_upgrade_13 ls st = some (ls', st')) (g : z_J Z mX6_upgrade R k n Q 17 ls' st' h) : z_J Z mX6_upgrade R k n Q 13 ls st h := z_jr bX6_upgrade_13 bX6_upgrade_13_ok hr g
theorem dX6_upgrade_17 : decode cX6_upgrade 17 = .ok (.invokestatic 72, 3) := by decide +kernel
theorem iX6_upgrade_17 (ha : z_args 3 st [] = some (As, rest)) (hc : z_chk rest As 3 = true) (hR : z_rm R R' 3 k n) (gc : z_J Z mX6_in R' 0 0 Q' 0 As [] h) (kr : ∀ (v : Option Value) (h' : zH), Q' (.inl v) h' → z_J Z mX6_upgrade R (k + R'.cells) (n + R'.slots) Q 20 ls (v.toList ++ rest) h') (kx : ∀ (E : String) (h' : zH), Q' (.inr E) h' → z_JX Z mX6_upgrade R (k + R'.cells) (n + R'.slots) Q 17 ls E h') : z_J Z mX6_upgrade R k n Q 17 ls st h := z_callS (M' := mX6_in) dX6_upgrade_17 rfl cs_X6_72 gw801 ha hR (z_chk1 hc) (z_chk2 hc) (z_chk3 hc) gc kr kx
theorem dX6_upgrade_20 : decode cX6_upgrade 20 = .ok (.ifCond .ne 7, 3) := by decide +kernel
theorem iX6_upgrade_20 (kt : ¬ x = 0 → z_J Z mX6_upgrade R k n Q 27 ls st h) (kf : x = 0 → z_J Z mX6_upgrade R k n Q 23 ls st h) : z_J Z mX6_upgrade R k n Q 20 ls (.int x :: st) h := z_if_ne dX6_upgrade_20 (tgt := 27) (by decide) rfl kt kf
def bX6_upgrade_23 : zB := [(23, .iconst 2, 24, nI 2), (24, .goto 18, 42, nI 0)]
theorem bX6_upgrade_23_ok : z_ok cX6_upgrade 23 bX6_upgrade_23 42 = true := by decide +kernel
theorem iX6_upgrade_23 (hr : z_run 4 bX6_upgrade_23 ls st = some (ls', st')) (g : z_J Z mX6_upgrade R k n Q 42 ls' st' h) : z_J Z mX6_upgrade R k n Q 23 ls st h := z_jr bX6_upgrade_23 bX6_upgrade_23_ok hr g
def bX6_upgrade_27 : zB := [(27, .iload_n 2, 28, nI 0), (28, .aload_n 0, 29, nI 0)]
theorem bX6_upgrade_27_ok : z_ok cX6_upgrade 27 bX6_upgrade_27 29 = true := by decide +kernel
theorem iX6_upgrade_27 (hr : z_run 4 bX6_upgrade_27 ls st = some (ls', st')) (g : z_J Z mX6_upgrade R k n Q 29 ls' st' h) : z_J Z mX6_upgrade R k n Q 27 ls st h := z_jr bX6_upgrade_27 bX6_upgrade_27_ok hr g
theorem dX6_upgrade_29 : decode cX6_upgrade 29 = .ok (.getfield 13, 3) := by decide +kernel
theorem iX6_upgrade_29 (hh : h r = some (a, .inr (7, fs))) (hv : fs[3]? = some v) (g : z_J Z mX6_upgrade R k n Q 32 ls (v :: st) h) : z_J Z mX6_upgrade R k n Q 29 ls (.ref a :: st) h := z_get dX6_upgrade_29 rfl fl_X6_13 hh hv g
def bX6_upgrade_32 : zB := [(32, .iload_n 1, 33, nI 0)]
theorem bX6_upgrade_32_ok : z_ok cX6_upgrade 32 bX6_upgrade_32 33 = true := by decide +kernel
theorem iX6_upgrade_32 (hr : z_run 4 bX6_upgrade_32 ls st = some (ls', st')) (g : z_J Z mX6_upgrade R k n Q 33 ls' st' h) : z_J Z mX6_upgrade R k n Q 32 ls st h := z_jr bX6_upgrade_32 bX6_upgrade_32_ok hr g
theorem dX6_upgrade_33 : decode cX6_upgrade 33 = .ok (.iaload, 1) := by decide +kernel
theorem iX6_upgrade_33 {f : Nat → Int32} (hh : h r = some (a, .inl (0, N, .inl f))) (hi : i = nI j) (hj : j < N) (hN : N < 2 ^ 31) (g : z_J Z mX6_upgrade R k n Q 34 ls (.int (f j) :: st) h) : z_J Z mX6_upgrade R k n Q 33 ls (.int i :: .ref a :: st) h := z_iald dX6_upgrade_33 rfl hh hi hj hN g
theorem dX6_upgrade_34 : decode cX6_upgrade 34 = .ok (.if_icmp .gt 7, 3) := by decide +kernel
theorem iX6_upgrade_34 (kt : y < x → z_J Z mX6_upgrade R k n Q 41 ls st h) (kf : ¬ y < x → z_J Z mX6_upgrade R k n Q 37 ls st h) : z_J Z mX6_upgrade R k n Q 34 ls (.int y :: .int x :: st) h := z_ic_gt dX6_upgrade_34 (tgt := 41) (by decide) rfl kt kf
def bX6_upgrade_37 : zB := [(37, .iconst 3, 38, nI 3), (38, .goto 4, 42, nI 0)]
theorem bX6_upgrade_37_ok : z_ok cX6_upgrade 37 bX6_upgrade_37 42 = true := by decide +kernel
theorem iX6_upgrade_37 (hr : z_run 4 bX6_upgrade_37 ls st = some (ls', st')) (g : z_J Z mX6_upgrade R k n Q 42 ls' st' h) : z_J Z mX6_upgrade R k n Q 37 ls st h := z_jr bX6_upgrade_37 bX6_upgrade_37_ok hr g
def bX6_upgrade_41 : zB := [(41, .iconst 0, 42, nI 0)]
theorem bX6_upgrade_41_ok : z_ok cX6_upgrade 41 bX6_upgrade_41 42 = true := by decide +kernel
theorem iX6_upgrade_41 (hr : z_run 4 bX6_upgrade_41 ls st = some (ls', st')) (g : z_J Z mX6_upgrade R k n Q 42 ls' st' h) : z_J Z mX6_upgrade R k n Q 41 ls st h := z_jr bX6_upgrade_41 bX6_upgrade_41_ok hr g
theorem dX6_upgrade_42 : decode cX6_upgrade 42 = .ok (.putfield 68, 3) := by decide +kernel
theorem iX6_upgrade_42 (hh : h r = some (a, .inr (7, fs))) (hl : Nat.blt 0 fs.length = true) (g : z_J Z mX6_upgrade R k n Q 45 ls st (z_u h r (a, .inr (7, fs.set 0 (.int x))))) : z_J Z mX6_upgrade R k n Q 42 ls ((.int x) :: .ref a :: st) h := z_put dX6_upgrade_42 rfl fl_X6_68 fw_X6_0 rfl hh rfl rfl (by simpa [Nat.blt_eq] using hl) g
def bX6_upgrade_45 : zB := [(45, .aload_n 0, 46, nI 0)]
theorem bX6_upgrade_45_ok : z_ok cX6_upgrade 45 bX6_upgrade_45 46 = true := by decide +kernel
theorem iX6_upgrade_45 (hr : z_run 4 bX6_upgrade_45 ls st = some (ls', st')) (g : z_J Z mX6_upgrade R k n Q 46 ls' st' h) : z_J Z mX6_upgrade R k n Q 45 ls st h := z_jr bX6_upgrade_45 bX6_upgrade_45_ok hr g
theorem dX6_upgrade_46 : decode cX6_upgrade 46 = .ok (.getfield 68, 3) := by decide +kernel
theorem iX6_upgrade_46 (hh : h r = some (a, .inr (7, fs))) (hv : fs[0]? = some v) (g : z_J Z mX6_upgrade R k n Q 49 ls (v :: st) h) : z_J Z mX6_upgrade R k n Q 46 ls (.ref a :: st) h := z_get dX6_upgrade_46 rfl fl_X6_68 hh hv g
theorem dX6_upgrade_49 : decode cX6_upgrade 49 = .ok (.ifCond .le 5, 3) := by decide +kernel
theorem iX6_upgrade_49 (kt : x ≤ 0 → z_J Z mX6_upgrade R k n Q 54 ls st h) (kf : ¬ x ≤ 0 → z_J Z mX6_upgrade R k n Q 52 ls st h) : z_J Z mX6_upgrade R k n Q 49 ls (.int x :: st) h := z_if_le dX6_upgrade_49 (tgt := 54) (by decide) rfl kt kf
def bX6_upgrade_52 : zB := [(52, .iconst 0, 53, nI 0)]
theorem bX6_upgrade_52_ok : z_ok cX6_upgrade 52 bX6_upgrade_52 53 = true := by decide +kernel
theorem iX6_upgrade_52 (hr : z_run 4 bX6_upgrade_52 ls st = some (ls', st')) (g : z_J Z mX6_upgrade R k n Q 53 ls' st' h) : z_J Z mX6_upgrade R k n Q 52 ls st h := z_jr bX6_upgrade_52 bX6_upgrade_52_ok hr g
theorem dX6_upgrade_53 : decode cX6_upgrade 53 = .ok (.ireturn, 1) := by decide +kernel
theorem iX6_upgrade_53 (hk : k ≤ R.cells) (hs : n ≤ R.slots) (hq : Q (.inl (some (.int x))) h) : z_J Z mX6_upgrade R k n Q 53 ls [.int x] h := z_iret (ty := .int) dX6_upgrade_53 rfl rfl hk hs hq
def bX6_upgrade_54 : zB := [(54, .aload_n 0, 55, nI 0)]
theorem bX6_upgrade_54_ok : z_ok cX6_upgrade 54 bX6_upgrade_54 55 = true := by decide +kernel
theorem iX6_upgrade_54 (hr : z_run 4 bX6_upgrade_54 ls st = some (ls', st')) (g : z_J Z mX6_upgrade R k n Q 55 ls' st' h) : z_J Z mX6_upgrade R k n Q 54 ls st h := z_jr bX6_upgrade_54 bX6_upgrade_54_ok hr g
theorem dX6_upgrade_55 : decode cX6_upgrade 55 = .ok (.getfield 13, 3) := by decide +kernel
theorem iX6_upgrade_55 (hh : h r = some (a, .inr (7, fs))) (hv : fs[3]? = some v) (g : z_J Z mX6_upgrade R k n Q 58 ls (v :: st) h) : z_J Z mX6_upgrade R k n Q 55 ls (.ref a :: st) h := z_get dX6_upgrade_55 rfl fl_X6_13 hh hv g
def bX6_upgrade_58 : zB := [(58, .iload_n 1, 59, nI 0)]
theorem bX6_upgrade_58_ok : z_ok cX6_upgrade 58 bX6_upgrade_58 59 = true := by decide +kernel
theorem iX6_upgrade_58 (hr : z_run 4 bX6_upgrade_58 ls st = some (ls', st')) (g : z_J Z mX6_upgrade R k n Q 59 ls' st' h) : z_J Z mX6_upgrade R k n Q 58 ls st h := z_jr bX6_upgrade_58 bX6_upgrade_58_ok hr g
theorem dX6_upgrade_59 : decode cX6_upgrade 59 = .ok (.iaload, 1) := by decide +kernel
theorem iX6_upgrade_59 {f : Nat → Int32} (hh : h r = some (a, .inl (0, N, .inl f))) (hi : i = nI j) (hj : j < N) (hN : N < 2 ^ 31) (g : z_J Z mX6_upgrade R k n Q 60 ls (.int (f j) :: st) h) : z_J Z mX6_upgrade R k n Q 59 ls (.int i :: .ref a :: st) h := z_iald dX6_upgrade_59 rfl hh hi hj hN g
def bX6_upgrade_60 : zB := [(60, .istore_n 3, 61, nI 0), (61, .aload_n 0, 62, nI 0)]
theorem bX6_upgrade_60_ok : z_ok cX6_upgrade 60 bX6_upgrade_60 62 = true := by decide +kernel
theorem iX6_upgrade_60 (hr : z_run 4 bX6_upgrade_60 ls st = some (ls', st')) (g : z_J Z mX6_upgrade R k n Q 62 ls' st' h) : z_J Z mX6_upgrade R k n Q 60 ls st h := z_jr bX6_upgrade_60 bX6_upgrade_60_ok hr g
theorem dX6_upgrade_62 : decode cX6_upgrade 62 = .ok (.getfield 13, 3) := by decide +kernel
theorem iX6_upgrade_62 (hh : h r = some (a, .inr (7, fs))) (hv : fs[3]? = some v) (g : z_J Z mX6_upgrade R k n Q 65 ls (v :: st) h) : z_J Z mX6_upgrade R k n Q 62 ls (.ref a :: st) h := z_get dX6_upgrade_62 rfl fl_X6_13 hh hv g
def bX6_upgrade_65 : zB := [(65, .iload_n 1, 66, nI 0), (66, .iload_n 2, 67, nI 0)]
theorem bX6_upgrade_65_ok : z_ok cX6_upgrade 65 bX6_upgrade_65 67 = true := by decide +kernel
theorem iX6_upgrade_65 (hr : z_run 4 bX6_upgrade_65 ls st = some (ls', st')) (g : z_J Z mX6_upgrade R k n Q 67 ls' st' h) : z_J Z mX6_upgrade R k n Q 65 ls st h := z_jr bX6_upgrade_65 bX6_upgrade_65_ok hr g
theorem dX6_upgrade_67 : decode cX6_upgrade 67 = .ok (.iastore, 1) := by decide +kernel
theorem iX6_upgrade_67 {f : Nat → Int32} (hh : h r = some (a, .inl (0, N, .inl f))) (hi : i = nI j) (hj : j < N) (hN : N < 2 ^ 31) (g : z_J Z mX6_upgrade R k n Q 68 ls st (z_u h r (a, .inl (0, N, .inl (upd f j x))))) : z_J Z mX6_upgrade R k n Q 67 ls (.int x :: .int i :: .ref a :: st) h := z_iast dX6_upgrade_67 rfl hh hi hj hN g
def bX6_upgrade_68 : zB := [(68, .iload_n 3, 69, nI 0)]
theorem bX6_upgrade_68_ok : z_ok cX6_upgrade 68 bX6_upgrade_68 69 = true := by decide +kernel
theorem iX6_upgrade_68 (hr : z_run 4 bX6_upgrade_68 ls st = some (ls', st')) (g : z_J Z mX6_upgrade R k n Q 69 ls' st' h) : z_J Z mX6_upgrade R k n Q 68 ls st h := z_jr bX6_upgrade_68 bX6_upgrade_68_ok hr g
theorem dX6_upgrade_69 : decode cX6_upgrade 69 = .ok (.ireturn, 1) := by decide +kernel
theorem iX6_upgrade_69 (hk : k ≤ R.cells) (hs : n ≤ R.slots) (hq : Q (.inl (some (.int x))) h) : z_J Z mX6_upgrade R k n Q 69 ls [.int x] h := z_iret (ty := .int) dX6_upgrade_69 rfl rfl hk hs hq
/-! X6_setUnits -/
def bX6_setUnits_0 : zB := [(0, .aload_n 0, 1, nI 0), (1, .aload_n 0, 2, nI 0), (2, .iload_n 1, 3, nI 0)]
theorem bX6_setUnits_0_ok : z_ok cX6_setUnits 0 bX6_setUnits_0 3 = true := by decide +kernel
theorem iX6_setUnits_0 (hr : z_run 4 bX6_setUnits_0 ls st = some (ls', st')) (g : z_J Z mX6_setUnits R k n Q 3 ls' st' h) : z_J Z mX6_setUnits R k n Q 0 ls st h := z_jr bX6_setUnits_0 bX6_setUnits_0_ok hr g
theorem dX6_setUnits_3 : decode cX6_setUnits 3 = .ok (.invokevirtual 82, 3) := by decide +kernel
theorem iX6_setUnits_3 (ha : z_args 1 st [] = some (As, .ref b :: rest)) (hc : z_chk rest (.ref b :: As) 2 = true) (hh : h r = some (b, .inr (7, fs))) (hR : z_rm R R' 2 k n) (gc : z_J Z mX6_isRight R' 0 0 Q' 0 (.ref b :: As) [] h) (kr : ∀ (v : Option Value) (h' : zH), Q' (.inl v) h' → z_J Z mX6_setUnits R (k + R'.cells) (n + R'.slots) Q 6 ls (v.toList ++ rest) h') (kx : ∀ (E : String) (h' : zH), Q' (.inr E) h' → z_JX Z mX6_setUnits R (k + R'.cells) (n + R'.slots) Q 3 ls E h') : z_J Z mX6_setUnits R k n Q 3 ls st h := z_callV (M' := mX6_isRight) dX6_setUnits_3 rfl cs_X6_82 rfl gw809 gwp17 ha hh (ci := 7) rfl hR (z_chk1 hc) (z_chk2 hc) (z_chk3 hc) gc kr kx
theorem dX6_setUnits_6 : decode cX6_setUnits 6 = .ok (.ifCond .ne 7, 3) := by decide +kernel
theorem iX6_setUnits_6 (kt : ¬ x = 0 → z_J Z mX6_setUnits R k n Q 13 ls st h) (kf : x = 0 → z_J Z mX6_setUnits R k n Q 9 ls st h) : z_J Z mX6_setUnits R k n Q 6 ls (.int x :: st) h := z_if_ne dX6_setUnits_6 (tgt := 13) (by decide) rfl kt kf
def bX6_setUnits_9 : zB := [(9, .iconst 1, 10, nI 1), (10, .goto 18, 28, nI 0)]
theorem bX6_setUnits_9_ok : z_ok cX6_setUnits 9 bX6_setUnits_9 28 = true := by decide +kernel
theorem iX6_setUnits_9 (hr : z_run 4 bX6_setUnits_9 ls st = some (ls', st')) (g : z_J Z mX6_setUnits R k n Q 28 ls' st' h) : z_J Z mX6_setUnits R k n Q 9 ls st h := z_jr bX6_setUnits_9 bX6_setUnits_9_ok hr g
def bX6_setUnits_13 : zB := [(13, .iload_n 2, 14, nI 0), (14, .iconst 0, 15, nI 0), (15, .bipush 100, 17, nI 100)]
theorem bX6_setUnits_13_ok : z_ok cX6_setUnits 13 bX6_setUnits_13 17 = true := by decide +kernel
theorem iX6_setUnits_13 (hr : z_run 4 bX6_setUnits_13 ls st = some (ls', st')) (g : z_J Z mX6_setUnits R k n Q 17 ls' st' h) : z_J Z mX6_setUnits R k n Q 13 ls st h := z_jr bX6_setUnits_13 bX6_setUnits_13_ok hr g
theorem dX6_setUnits_17 : decode cX6_setUnits 17 = .ok (.invokestatic 72, 3) := by decide +kernel
theorem iX6_setUnits_17 (ha : z_args 3 st [] = some (As, rest)) (hc : z_chk rest As 3 = true) (hR : z_rm R R' 3 k n) (gc : z_J Z mX6_in R' 0 0 Q' 0 As [] h) (kr : ∀ (v : Option Value) (h' : zH), Q' (.inl v) h' → z_J Z mX6_setUnits R (k + R'.cells) (n + R'.slots) Q 20 ls (v.toList ++ rest) h') (kx : ∀ (E : String) (h' : zH), Q' (.inr E) h' → z_JX Z mX6_setUnits R (k + R'.cells) (n + R'.slots) Q 17 ls E h') : z_J Z mX6_setUnits R k n Q 17 ls st h := z_callS (M' := mX6_in) dX6_setUnits_17 rfl cs_X6_72 gw801 ha hR (z_chk1 hc) (z_chk2 hc) (z_chk3 hc) gc kr kx
theorem dX6_setUnits_20 : decode cX6_setUnits 20 = .ok (.ifCond .eq 7, 3) := by decide +kernel
theorem iX6_setUnits_20 (kt : x = 0 → z_J Z mX6_setUnits R k n Q 27 ls st h) (kf : ¬ x = 0 → z_J Z mX6_setUnits R k n Q 23 ls st h) : z_J Z mX6_setUnits R k n Q 20 ls (.int x :: st) h := z_if_eq dX6_setUnits_20 (tgt := 27) (by decide) rfl kt kf
def bX6_setUnits_23 : zB := [(23, .iconst 0, 24, nI 0), (24, .goto 4, 28, nI 0)]
theorem bX6_setUnits_23_ok : z_ok cX6_setUnits 23 bX6_setUnits_23 28 = true := by decide +kernel
theorem iX6_setUnits_23 (hr : z_run 4 bX6_setUnits_23 ls st = some (ls', st')) (g : z_J Z mX6_setUnits R k n Q 28 ls' st' h) : z_J Z mX6_setUnits R k n Q 23 ls st h := z_jr bX6_setUnits_23 bX6_setUnits_23_ok hr g
def bX6_setUnits_27 : zB := [(27, .iconst 2, 28, nI 2)]
theorem bX6_setUnits_27_ok : z_ok cX6_setUnits 27 bX6_setUnits_27 28 = true := by decide +kernel
theorem iX6_setUnits_27 (hr : z_run 4 bX6_setUnits_27 ls st = some (ls', st')) (g : z_J Z mX6_setUnits R k n Q 28 ls' st' h) : z_J Z mX6_setUnits R k n Q 27 ls st h := z_jr bX6_setUnits_27 bX6_setUnits_27_ok hr g
theorem dX6_setUnits_28 : decode cX6_setUnits 28 = .ok (.putfield 68, 3) := by decide +kernel
theorem iX6_setUnits_28 (hh : h r = some (a, .inr (7, fs))) (hl : Nat.blt 0 fs.length = true) (g : z_J Z mX6_setUnits R k n Q 31 ls st (z_u h r (a, .inr (7, fs.set 0 (.int x))))) : z_J Z mX6_setUnits R k n Q 28 ls ((.int x) :: .ref a :: st) h := z_put dX6_setUnits_28 rfl fl_X6_68 fw_X6_0 rfl hh rfl rfl (by simpa [Nat.blt_eq] using hl) g
def bX6_setUnits_31 : zB := [(31, .aload_n 0, 32, nI 0)]
theorem bX6_setUnits_31_ok : z_ok cX6_setUnits 31 bX6_setUnits_31 32 = true := by decide +kernel
theorem iX6_setUnits_31 (hr : z_run 4 bX6_setUnits_31 ls st = some (ls', st')) (g : z_J Z mX6_setUnits R k n Q 32 ls' st' h) : z_J Z mX6_setUnits R k n Q 31 ls st h := z_jr bX6_setUnits_31 bX6_setUnits_31_ok hr g
theorem dX6_setUnits_32 : decode cX6_setUnits 32 = .ok (.getfield 68, 3) := by decide +kernel
theorem iX6_setUnits_32 (hh : h r = some (a, .inr (7, fs))) (hv : fs[0]? = some v) (g : z_J Z mX6_setUnits R k n Q 35 ls (v :: st) h) : z_J Z mX6_setUnits R k n Q 32 ls (.ref a :: st) h := z_get dX6_setUnits_32 rfl fl_X6_68 hh hv g
theorem dX6_setUnits_35 : decode cX6_setUnits 35 = .ok (.ifCond .le 5, 3) := by decide +kernel
theorem iX6_setUnits_35 (kt : x ≤ 0 → z_J Z mX6_setUnits R k n Q 40 ls st h) (kf : ¬ x ≤ 0 → z_J Z mX6_setUnits R k n Q 38 ls st h) : z_J Z mX6_setUnits R k n Q 35 ls (.int x :: st) h := z_if_le dX6_setUnits_35 (tgt := 40) (by decide) rfl kt kf
def bX6_setUnits_38 : zB := [(38, .iconst 0, 39, nI 0)]
theorem bX6_setUnits_38_ok : z_ok cX6_setUnits 38 bX6_setUnits_38 39 = true := by decide +kernel
theorem iX6_setUnits_38 (hr : z_run 4 bX6_setUnits_38 ls st = some (ls', st')) (g : z_J Z mX6_setUnits R k n Q 39 ls' st' h) : z_J Z mX6_setUnits R k n Q 38 ls st h := z_jr bX6_setUnits_38 bX6_setUnits_38_ok hr g
theorem dX6_setUnits_39 : decode cX6_setUnits 39 = .ok (.ireturn, 1) := by decide +kernel
theorem iX6_setUnits_39 (hk : k ≤ R.cells) (hs : n ≤ R.slots) (hq : Q (.inl (some (.int x))) h) : z_J Z mX6_setUnits R k n Q 39 ls [.int x] h := z_iret (ty := .int) dX6_setUnits_39 rfl rfl hk hs hq
def bX6_setUnits_40 : zB := [(40, .aload_n 0, 41, nI 0)]
theorem bX6_setUnits_40_ok : z_ok cX6_setUnits 40 bX6_setUnits_40 41 = true := by decide +kernel
theorem iX6_setUnits_40 (hr : z_run 4 bX6_setUnits_40 ls st = some (ls', st')) (g : z_J Z mX6_setUnits R k n Q 41 ls' st' h) : z_J Z mX6_setUnits R k n Q 40 ls st h := z_jr bX6_setUnits_40 bX6_setUnits_40_ok hr g
theorem dX6_setUnits_41 : decode cX6_setUnits 41 = .ok (.getfield 16, 3) := by decide +kernel
theorem iX6_setUnits_41 (hh : h r = some (a, .inr (7, fs))) (hv : fs[4]? = some v) (g : z_J Z mX6_setUnits R k n Q 44 ls (v :: st) h) : z_J Z mX6_setUnits R k n Q 41 ls (.ref a :: st) h := z_get dX6_setUnits_41 rfl fl_X6_16 hh hv g
def bX6_setUnits_44 : zB := [(44, .iload_n 1, 45, nI 0)]
theorem bX6_setUnits_44_ok : z_ok cX6_setUnits 44 bX6_setUnits_44 45 = true := by decide +kernel
theorem iX6_setUnits_44 (hr : z_run 4 bX6_setUnits_44 ls st = some (ls', st')) (g : z_J Z mX6_setUnits R k n Q 45 ls' st' h) : z_J Z mX6_setUnits R k n Q 44 ls st h := z_jr bX6_setUnits_44 bX6_setUnits_44_ok hr g
theorem dX6_setUnits_45 : decode cX6_setUnits 45 = .ok (.iaload, 1) := by decide +kernel
theorem iX6_setUnits_45 {f : Nat → Int32} (hh : h r = some (a, .inl (0, N, .inl f))) (hi : i = nI j) (hj : j < N) (hN : N < 2 ^ 31) (g : z_J Z mX6_setUnits R k n Q 46 ls (.int (f j) :: st) h) : z_J Z mX6_setUnits R k n Q 45 ls (.int i :: .ref a :: st) h := z_iald dX6_setUnits_45 rfl hh hi hj hN g
def bX6_setUnits_46 : zB := [(46, .istore_n 3, 47, nI 0), (47, .aload_n 0, 48, nI 0)]
theorem bX6_setUnits_46_ok : z_ok cX6_setUnits 46 bX6_setUnits_46 48 = true := by decide +kernel
theorem iX6_setUnits_46 (hr : z_run 4 bX6_setUnits_46 ls st = some (ls', st')) (g : z_J Z mX6_setUnits R k n Q 48 ls' st' h) : z_J Z mX6_setUnits R k n Q 46 ls st h := z_jr bX6_setUnits_46 bX6_setUnits_46_ok hr g
theorem dX6_setUnits_48 : decode cX6_setUnits 48 = .ok (.getfield 16, 3) := by decide +kernel
theorem iX6_setUnits_48 (hh : h r = some (a, .inr (7, fs))) (hv : fs[4]? = some v) (g : z_J Z mX6_setUnits R k n Q 51 ls (v :: st) h) : z_J Z mX6_setUnits R k n Q 48 ls (.ref a :: st) h := z_get dX6_setUnits_48 rfl fl_X6_16 hh hv g
def bX6_setUnits_51 : zB := [(51, .iload_n 1, 52, nI 0), (52, .iload_n 2, 53, nI 0)]
theorem bX6_setUnits_51_ok : z_ok cX6_setUnits 51 bX6_setUnits_51 53 = true := by decide +kernel
theorem iX6_setUnits_51 (hr : z_run 4 bX6_setUnits_51 ls st = some (ls', st')) (g : z_J Z mX6_setUnits R k n Q 53 ls' st' h) : z_J Z mX6_setUnits R k n Q 51 ls st h := z_jr bX6_setUnits_51 bX6_setUnits_51_ok hr g
theorem dX6_setUnits_53 : decode cX6_setUnits 53 = .ok (.iastore, 1) := by decide +kernel
theorem iX6_setUnits_53 {f : Nat → Int32} (hh : h r = some (a, .inl (0, N, .inl f))) (hi : i = nI j) (hj : j < N) (hN : N < 2 ^ 31) (g : z_J Z mX6_setUnits R k n Q 54 ls st (z_u h r (a, .inl (0, N, .inl (upd f j x))))) : z_J Z mX6_setUnits R k n Q 53 ls (.int x :: .int i :: .ref a :: st) h := z_iast dX6_setUnits_53 rfl hh hi hj hN g
def bX6_setUnits_54 : zB := [(54, .iload_n 3, 55, nI 0)]
theorem bX6_setUnits_54_ok : z_ok cX6_setUnits 54 bX6_setUnits_54 55 = true := by decide +kernel
theorem iX6_setUnits_54 (hr : z_run 4 bX6_setUnits_54 ls st = some (ls', st')) (g : z_J Z mX6_setUnits R k n Q 55 ls' st' h) : z_J Z mX6_setUnits R k n Q 54 ls st h := z_jr bX6_setUnits_54 bX6_setUnits_54_ok hr g
theorem dX6_setUnits_55 : decode cX6_setUnits 55 = .ok (.ireturn, 1) := by decide +kernel
theorem iX6_setUnits_55 (hk : k ≤ R.cells) (hs : n ≤ R.slots) (hq : Q (.inl (some (.int x))) h) : z_J Z mX6_setUnits R k n Q 55 ls [.int x] h := z_iret (ty := .int) dX6_setUnits_55 rfl rfl hk hs hq
/-! X6_rights -/
def bX6_rights_0 : zB := [(0, .aload_n 0, 1, nI 0), (1, .iconst 0, 2, nI 0)]
theorem bX6_rights_0_ok : z_ok cX6_rights 0 bX6_rights_0 2 = true := by decide +kernel
theorem iX6_rights_0 (hr : z_run 1 bX6_rights_0 ls st = some (ls', st')) (g : z_J Z mX6_rights R k n Q 2 ls' st' h) : z_J Z mX6_rights R k n Q 0 ls st h := z_jr bX6_rights_0 bX6_rights_0_ok hr g
theorem dX6_rights_2 : decode cX6_rights 2 = .ok (.putfield 68, 3) := by decide +kernel
theorem iX6_rights_2 (hh : h r = some (a, .inr (7, fs))) (hl : Nat.blt 0 fs.length = true) (g : z_J Z mX6_rights R k n Q 5 ls st (z_u h r (a, .inr (7, fs.set 0 (.int x))))) : z_J Z mX6_rights R k n Q 2 ls ((.int x) :: .ref a :: st) h := z_put dX6_rights_2 rfl fl_X6_68 fw_X6_0 rfl hh rfl rfl (by simpa [Nat.blt_eq] using hl) g
def bX6_rights_5 : zB := [(5, .aload_n 0, 6, nI 0)]
theorem bX6_rights_5_ok : z_ok cX6_rights 5 bX6_rights_5 6 = true := by decide +kernel
theorem iX6_rights_5 (hr : z_run 1 bX6_rights_5 ls st = some (ls', st')) (g : z_J Z mX6_rights R k n Q 6 ls' st' h) : z_J Z mX6_rights R k n Q 5 ls st h := z_jr bX6_rights_5 bX6_rights_5_ok hr g
theorem dX6_rights_6 : decode cX6_rights 6 = .ok (.getfield 79, 3) := by decide +kernel
theorem iX6_rights_6 (hh : h r = some (a, .inr (7, fs))) (hv : fs[1]? = some v) (g : z_J Z mX6_rights R k n Q 9 ls (v :: st) h) : z_J Z mX6_rights R k n Q 6 ls (.ref a :: st) h := z_get dX6_rights_6 rfl fl_X6_79 hh hv g
theorem dX6_rights_9 : decode cX6_rights 9 = .ok (.ireturn, 1) := by decide +kernel
theorem iX6_rights_9 (hk : k ≤ R.cells) (hs : n ≤ R.slots) (hq : Q (.inl (some (.int x))) h) : z_J Z mX6_rights R k n Q 9 ls [.int x] h := z_iret (ty := .int) dX6_rights_9 rfl rfl hk hs hq
/-! X6_addMachine -/
def bX6_addMachine_0 : zB := [(0, .aload_n 0, 1, nI 0), (1, .iload_n 2, 2, nI 0), (2, .iconst (-1), 3, -1)]
theorem bX6_addMachine_0_ok : z_ok cX6_addMachine 0 bX6_addMachine_0 3 = true := by decide +kernel
theorem iX6_addMachine_0 (hr : z_run 3 bX6_addMachine_0 ls st = some (ls', st')) (g : z_J Z mX6_addMachine R k n Q 3 ls' st' h) : z_J Z mX6_addMachine R k n Q 0 ls st h := z_jr bX6_addMachine_0 bX6_addMachine_0_ok hr g
theorem dX6_addMachine_3 : decode cX6_addMachine 3 = .ok (.if_icmp .eq 15, 3) := by decide +kernel
theorem iX6_addMachine_3 (kt : x = y → z_J Z mX6_addMachine R k n Q 18 ls st h) (kf : ¬ x = y → z_J Z mX6_addMachine R k n Q 6 ls st h) : z_J Z mX6_addMachine R k n Q 3 ls (.int y :: .int x :: st) h := z_ic_eq dX6_addMachine_3 (tgt := 18) (by decide) rfl kt kf
def bX6_addMachine_6 : zB := [(6, .aload_n 0, 7, nI 0), (7, .iload_n 2, 8, nI 0)]
theorem bX6_addMachine_6_ok : z_ok cX6_addMachine 6 bX6_addMachine_6 8 = true := by decide +kernel
theorem iX6_addMachine_6 (hr : z_run 3 bX6_addMachine_6 ls st = some (ls', st')) (g : z_J Z mX6_addMachine R k n Q 8 ls' st' h) : z_J Z mX6_addMachine R k n Q 6 ls st h := z_jr bX6_addMachine_6 bX6_addMachine_6_ok hr g
theorem dX6_addMachine_8 : decode cX6_addMachine 8 = .ok (.invokevirtual 86, 3) := by decide +kernel
theorem iX6_addMachine_8 (ha : z_args 1 st [] = some (As, .ref b :: rest)) (hc : z_chk rest (.ref b :: As) 2 = true) (hh : h r = some (b, .inr (7, fs))) (hR : z_rm R R' 2 k n) (gc : z_J Z mX6_isMachine R' 0 0 Q' 0 (.ref b :: As) [] h) (kr : ∀ (v : Option Value) (h' : zH), Q' (.inl v) h' → z_J Z mX6_addMachine R (k + R'.cells) (n + R'.slots) Q 11 ls (v.toList ++ rest) h') (kx : ∀ (E : String) (h' : zH), Q' (.inr E) h' → z_JX Z mX6_addMachine R (k + R'.cells) (n + R'.slots) Q 8 ls E h') : z_J Z mX6_addMachine R k n Q 8 ls st h := z_callV (M' := mX6_isMachine) dX6_addMachine_8 rfl cs_X6_86 rfl gw825 gwp18 ha hh (ci := 7) rfl hR (z_chk1 hc) (z_chk2 hc) (z_chk3 hc) gc kr kx
theorem dX6_addMachine_11 : decode cX6_addMachine 11 = .ok (.ifCond .ne 7, 3) := by decide +kernel
theorem iX6_addMachine_11 (kt : ¬ x = 0 → z_J Z mX6_addMachine R k n Q 18 ls st h) (kf : x = 0 → z_J Z mX6_addMachine R k n Q 14 ls st h) : z_J Z mX6_addMachine R k n Q 11 ls (.int x :: st) h := z_if_ne dX6_addMachine_11 (tgt := 18) (by decide) rfl kt kf
def bX6_addMachine_14 : zB := [(14, .iconst 1, 15, nI 1), (15, .goto 31, 46, nI 0)]
theorem bX6_addMachine_14_ok : z_ok cX6_addMachine 14 bX6_addMachine_14 46 = true := by decide +kernel
theorem iX6_addMachine_14 (hr : z_run 3 bX6_addMachine_14 ls st = some (ls', st')) (g : z_J Z mX6_addMachine R k n Q 46 ls' st' h) : z_J Z mX6_addMachine R k n Q 14 ls st h := z_jr bX6_addMachine_14 bX6_addMachine_14_ok hr g
def bX6_addMachine_18 : zB := [(18, .iload_n 1, 19, nI 0), (19, .iconst 1, 20, nI 1), (20, .bipush 64, 22, nI 64)]
theorem bX6_addMachine_18_ok : z_ok cX6_addMachine 18 bX6_addMachine_18 22 = true := by decide +kernel
theorem iX6_addMachine_18 (hr : z_run 3 bX6_addMachine_18 ls st = some (ls', st')) (g : z_J Z mX6_addMachine R k n Q 22 ls' st' h) : z_J Z mX6_addMachine R k n Q 18 ls st h := z_jr bX6_addMachine_18 bX6_addMachine_18_ok hr g
theorem dX6_addMachine_22 : decode cX6_addMachine 22 = .ok (.invokestatic 72, 3) := by decide +kernel
theorem iX6_addMachine_22 (ha : z_args 3 st [] = some (As, rest)) (hc : z_chk rest As 3 = true) (hR : z_rm R R' 3 k n) (gc : z_J Z mX6_in R' 0 0 Q' 0 As [] h) (kr : ∀ (v : Option Value) (h' : zH), Q' (.inl v) h' → z_J Z mX6_addMachine R (k + R'.cells) (n + R'.slots) Q 25 ls (v.toList ++ rest) h') (kx : ∀ (E : String) (h' : zH), Q' (.inr E) h' → z_JX Z mX6_addMachine R (k + R'.cells) (n + R'.slots) Q 22 ls E h') : z_J Z mX6_addMachine R k n Q 22 ls st h := z_callS (M' := mX6_in) dX6_addMachine_22 rfl cs_X6_72 gw801 ha hR (z_chk1 hc) (z_chk2 hc) (z_chk3 hc) gc kr kx
theorem dX6_addMachine_25 : decode cX6_addMachine 25 = .ok (.ifCond .ne 7, 3) := by decide +kernel
theorem iX6_addMachine_25 (kt : ¬ x = 0 → z_J Z mX6_addMachine R k n Q 32 ls st h) (kf : x = 0 → z_J Z mX6_addMachine R k n Q 28 ls st h) : z_J Z mX6_addMachine R k n Q 25 ls (.int x :: st) h := z_if_ne dX6_addMachine_25 (tgt := 32) (by decide) rfl kt kf
def bX6_addMachine_28 : zB := [(28, .iconst 2, 29, nI 2), (29, .goto 17, 46, nI 0)]
theorem bX6_addMachine_28_ok : z_ok cX6_addMachine 28 bX6_addMachine_28 46 = true := by decide +kernel
theorem iX6_addMachine_28 (hr : z_run 3 bX6_addMachine_28 ls st = some (ls', st')) (g : z_J Z mX6_addMachine R k n Q 46 ls' st' h) : z_J Z mX6_addMachine R k n Q 28 ls st h := z_jr bX6_addMachine_28 bX6_addMachine_28_ok hr g
def bX6_addMachine_32 : zB := [(32, .aload_n 0, 33, nI 0)]
theorem bX6_addMachine_32_ok : z_ok cX6_addMachine 32 bX6_addMachine_32 33 = true := by decide +kernel
theorem iX6_addMachine_32 (hr : z_run 3 bX6_addMachine_32 ls st = some (ls', st')) (g : z_J Z mX6_addMachine R k n Q 33 ls' st' h) : z_J Z mX6_addMachine R k n Q 32 ls st h := z_jr bX6_addMachine_32 bX6_addMachine_32_ok hr g
theorem dX6_addMachine_33 : decode cX6_addMachine 33 = .ok (.getfield 76, 3) := by decide +kernel
theorem iX6_addMachine_33 (hh : h r = some (a, .inr (7, fs))) (hv : fs[7]? = some v) (g : z_J Z mX6_addMachine R k n Q 36 ls (v :: st) h) : z_J Z mX6_addMachine R k n Q 33 ls (.ref a :: st) h := z_get dX6_addMachine_33 rfl fl_X6_76 hh hv g
def bX6_addMachine_36 : zB := [(36, .bipush 8, 38, nI 8)]
theorem bX6_addMachine_36_ok : z_ok cX6_addMachine 36 bX6_addMachine_36 38 = true := by decide +kernel
theorem iX6_addMachine_36 (hr : z_run 3 bX6_addMachine_36 ls st = some (ls', st')) (g : z_J Z mX6_addMachine R k n Q 38 ls' st' h) : z_J Z mX6_addMachine R k n Q 36 ls st h := z_jr bX6_addMachine_36 bX6_addMachine_36_ok hr g
theorem dX6_addMachine_38 : decode cX6_addMachine 38 = .ok (.if_icmp .ne 7, 3) := by decide +kernel
theorem iX6_addMachine_38 (kt : ¬ x = y → z_J Z mX6_addMachine R k n Q 45 ls st h) (kf : x = y → z_J Z mX6_addMachine R k n Q 41 ls st h) : z_J Z mX6_addMachine R k n Q 38 ls (.int y :: .int x :: st) h := z_ic_ne dX6_addMachine_38 (tgt := 45) (by decide) rfl kt kf
def bX6_addMachine_41 : zB := [(41, .iconst 3, 42, nI 3), (42, .goto 4, 46, nI 0)]
theorem bX6_addMachine_41_ok : z_ok cX6_addMachine 41 bX6_addMachine_41 46 = true := by decide +kernel
theorem iX6_addMachine_41 (hr : z_run 3 bX6_addMachine_41 ls st = some (ls', st')) (g : z_J Z mX6_addMachine R k n Q 46 ls' st' h) : z_J Z mX6_addMachine R k n Q 41 ls st h := z_jr bX6_addMachine_41 bX6_addMachine_41_ok hr g
def bX6_addMachine_45 : zB := [(45, .iconst 0, 46, nI 0)]
theorem bX6_addMachine_45_ok : z_ok cX6_addMachine 45 bX6_addMachine_45 46 = true := by decide +kernel
theorem iX6_addMachine_45 (hr : z_run 3 bX6_addMachine_45 ls st = some (ls', st')) (g : z_J Z mX6_addMachine R k n Q 46 ls' st' h) : z_J Z mX6_addMachine R k n Q 45 ls st h := z_jr bX6_addMachine_45 bX6_addMachine_45_ok hr g
theorem dX6_addMachine_46 : decode cX6_addMachine 46 = .ok (.putfield 68, 3) := by decide +kernel
theorem iX6_addMachine_46 (hh : h r = some (a, .inr (7, fs))) (hl : Nat.blt 0 fs.length = true) (g : z_J Z mX6_addMachine R k n Q 49 ls st (z_u h r (a, .inr (7, fs.set 0 (.int x))))) : z_J Z mX6_addMachine R k n Q 46 ls ((.int x) :: .ref a :: st) h := z_put dX6_addMachine_46 rfl fl_X6_68 fw_X6_0 rfl hh rfl rfl (by simpa [Nat.blt_eq] using hl) g
def bX6_addMachine_49 : zB := [(49, .aload_n 0, 50, nI 0)]
theorem bX6_addMachine_49_ok : z_ok cX6_addMachine 49 bX6_addMachine_49 50 = true := by decide +kernel
theorem iX6_addMachine_49 (hr : z_run 3 bX6_addMachine_49 ls st = some (ls', st')) (g : z_J Z mX6_addMachine R k n Q 50 ls' st' h) : z_J Z mX6_addMachine R k n Q 49 ls st h := z_jr bX6_addMachine_49 bX6_addMachine_49_ok hr g
theorem dX6_addMachine_50 : decode cX6_addMachine 50 = .ok (.getfield 68, 3) := by decide +kernel
theorem iX6_addMachine_50 (hh : h r = some (a, .inr (7, fs))) (hv : fs[0]? = some v) (g : z_J Z mX6_addMachine R k n Q 53 ls (v :: st) h) : z_J Z mX6_addMachine R k n Q 50 ls (.ref a :: st) h := z_get dX6_addMachine_50 rfl fl_X6_68 hh hv g
theorem dX6_addMachine_53 : decode cX6_addMachine 53 = .ok (.ifCond .le 5, 3) := by decide +kernel
theorem iX6_addMachine_53 (kt : x ≤ 0 → z_J Z mX6_addMachine R k n Q 58 ls st h) (kf : ¬ x ≤ 0 → z_J Z mX6_addMachine R k n Q 56 ls st h) : z_J Z mX6_addMachine R k n Q 53 ls (.int x :: st) h := z_if_le dX6_addMachine_53 (tgt := 58) (by decide) rfl kt kf
def bX6_addMachine_56 : zB := [(56, .iconst 0, 57, nI 0)]
theorem bX6_addMachine_56_ok : z_ok cX6_addMachine 56 bX6_addMachine_56 57 = true := by decide +kernel
theorem iX6_addMachine_56 (hr : z_run 3 bX6_addMachine_56 ls st = some (ls', st')) (g : z_J Z mX6_addMachine R k n Q 57 ls' st' h) : z_J Z mX6_addMachine R k n Q 56 ls st h := z_jr bX6_addMachine_56 bX6_addMachine_56_ok hr g
theorem dX6_addMachine_57 : decode cX6_addMachine 57 = .ok (.ireturn, 1) := by decide +kernel
theorem iX6_addMachine_57 (hk : k ≤ R.cells) (hs : n ≤ R.slots) (hq : Q (.inl (some (.int x))) h) : z_J Z mX6_addMachine R k n Q 57 ls [.int x] h := z_iret (ty := .int) dX6_addMachine_57 rfl rfl hk hs hq
def bX6_addMachine_58 : zB := [(58, .aload_n 0, 59, nI 0)]
theorem bX6_addMachine_58_ok : z_ok cX6_addMachine 58 bX6_addMachine_58 59 = true := by decide +kernel
theorem iX6_addMachine_58 (hr : z_run 3 bX6_addMachine_58 ls st = some (ls', st')) (g : z_J Z mX6_addMachine R k n Q 59 ls' st' h) : z_J Z mX6_addMachine R k n Q 58 ls st h := z_jr bX6_addMachine_58 bX6_addMachine_58_ok hr g
theorem dX6_addMachine_59 : decode cX6_addMachine 59 = .ok (.getfield 25, 3) := by decide +kernel
theorem iX6_addMachine_59 (hh : h r = some (a, .inr (7, fs))) (hv : fs[8]? = some v) (g : z_J Z mX6_addMachine R k n Q 62 ls (v :: st) h) : z_J Z mX6_addMachine R k n Q 59 ls (.ref a :: st) h := z_get dX6_addMachine_59 rfl fl_X6_25 hh hv g
def bX6_addMachine_62 : zB := [(62, .aload_n 0, 63, nI 0)]
theorem bX6_addMachine_62_ok : z_ok cX6_addMachine 62 bX6_addMachine_62 63 = true := by decide +kernel
theorem iX6_addMachine_62 (hr : z_run 3 bX6_addMachine_62 ls st = some (ls', st')) (g : z_J Z mX6_addMachine R k n Q 63 ls' st' h) : z_J Z mX6_addMachine R k n Q 62 ls st h := z_jr bX6_addMachine_62 bX6_addMachine_62_ok hr g
theorem dX6_addMachine_63 : decode cX6_addMachine 63 = .ok (.getfield 76, 3) := by decide +kernel
theorem iX6_addMachine_63 (hh : h r = some (a, .inr (7, fs))) (hv : fs[7]? = some v) (g : z_J Z mX6_addMachine R k n Q 66 ls (v :: st) h) : z_J Z mX6_addMachine R k n Q 63 ls (.ref a :: st) h := z_get dX6_addMachine_63 rfl fl_X6_76 hh hv g
def bX6_addMachine_66 : zB := [(66, .iload_n 1, 67, nI 0)]
theorem bX6_addMachine_66_ok : z_ok cX6_addMachine 66 bX6_addMachine_66 67 = true := by decide +kernel
theorem iX6_addMachine_66 (hr : z_run 3 bX6_addMachine_66 ls st = some (ls', st')) (g : z_J Z mX6_addMachine R k n Q 67 ls' st' h) : z_J Z mX6_addMachine R k n Q 66 ls st h := z_jr bX6_addMachine_66 bX6_addMachine_66_ok hr g
theorem dX6_addMachine_67 : decode cX6_addMachine 67 = .ok (.iastore, 1) := by decide +kernel
theorem iX6_addMachine_67 {f : Nat → Int32} (hh : h r = some (a, .inl (0, N, .inl f))) (hi : i = nI j) (hj : j < N) (hN : N < 2 ^ 31) (g : z_J Z mX6_addMachine R k n Q 68 ls st (z_u h r (a, .inl (0, N, .inl (upd f j x))))) : z_J Z mX6_addMachine R k n Q 67 ls (.int x :: .int i :: .ref a :: st) h := z_iast dX6_addMachine_67 rfl hh hi hj hN g
def bX6_addMachine_68 : zB := [(68, .aload_n 0, 69, nI 0)]
theorem bX6_addMachine_68_ok : z_ok cX6_addMachine 68 bX6_addMachine_68 69 = true := by decide +kernel
theorem iX6_addMachine_68 (hr : z_run 3 bX6_addMachine_68 ls st = some (ls', st')) (g : z_J Z mX6_addMachine R k n Q 69 ls' st' h) : z_J Z mX6_addMachine R k n Q 68 ls st h := z_jr bX6_addMachine_68 bX6_addMachine_68_ok hr g
theorem dX6_addMachine_69 : decode cX6_addMachine 69 = .ok (.getfield 28, 3) := by decide +kernel
theorem iX6_addMachine_69 (hh : h r = some (a, .inr (7, fs))) (hv : fs[9]? = some v) (g : z_J Z mX6_addMachine R k n Q 72 ls (v :: st) h) : z_J Z mX6_addMachine R k n Q 69 ls (.ref a :: st) h := z_get dX6_addMachine_69 rfl fl_X6_28 hh hv g
def bX6_addMachine_72 : zB := [(72, .aload_n 0, 73, nI 0)]
theorem bX6_addMachine_72_ok : z_ok cX6_addMachine 72 bX6_addMachine_72 73 = true := by decide +kernel
theorem iX6_addMachine_72 (hr : z_run 3 bX6_addMachine_72 ls st = some (ls', st')) (g : z_J Z mX6_addMachine R k n Q 73 ls' st' h) : z_J Z mX6_addMachine R k n Q 72 ls st h := z_jr bX6_addMachine_72 bX6_addMachine_72_ok hr g
theorem dX6_addMachine_73 : decode cX6_addMachine 73 = .ok (.getfield 76, 3) := by decide +kernel
theorem iX6_addMachine_73 (hh : h r = some (a, .inr (7, fs))) (hv : fs[7]? = some v) (g : z_J Z mX6_addMachine R k n Q 76 ls (v :: st) h) : z_J Z mX6_addMachine R k n Q 73 ls (.ref a :: st) h := z_get dX6_addMachine_73 rfl fl_X6_76 hh hv g
def bX6_addMachine_76 : zB := [(76, .iload_n 2, 77, nI 0)]
theorem bX6_addMachine_76_ok : z_ok cX6_addMachine 76 bX6_addMachine_76 77 = true := by decide +kernel
theorem iX6_addMachine_76 (hr : z_run 3 bX6_addMachine_76 ls st = some (ls', st')) (g : z_J Z mX6_addMachine R k n Q 77 ls' st' h) : z_J Z mX6_addMachine R k n Q 76 ls st h := z_jr bX6_addMachine_76 bX6_addMachine_76_ok hr g
theorem dX6_addMachine_77 : decode cX6_addMachine 77 = .ok (.iastore, 1) := by decide +kernel
theorem iX6_addMachine_77 {f : Nat → Int32} (hh : h r = some (a, .inl (0, N, .inl f))) (hi : i = nI j) (hj : j < N) (hN : N < 2 ^ 31) (g : z_J Z mX6_addMachine R k n Q 78 ls st (z_u h r (a, .inl (0, N, .inl (upd f j x))))) : z_J Z mX6_addMachine R k n Q 77 ls (.int x :: .int i :: .ref a :: st) h := z_iast dX6_addMachine_77 rfl hh hi hj hN g
def bX6_addMachine_78 : zB := [(78, .aload_n 0, 79, nI 0), (79, .dup, 80, nI 0)]
theorem bX6_addMachine_78_ok : z_ok cX6_addMachine 78 bX6_addMachine_78 80 = true := by decide +kernel
theorem iX6_addMachine_78 (hr : z_run 3 bX6_addMachine_78 ls st = some (ls', st')) (g : z_J Z mX6_addMachine R k n Q 80 ls' st' h) : z_J Z mX6_addMachine R k n Q 78 ls st h := z_jr bX6_addMachine_78 bX6_addMachine_78_ok hr g
theorem dX6_addMachine_80 : decode cX6_addMachine 80 = .ok (.getfield 76, 3) := by decide +kernel
theorem iX6_addMachine_80 (hh : h r = some (a, .inr (7, fs))) (hv : fs[7]? = some v) (g : z_J Z mX6_addMachine R k n Q 83 ls (v :: st) h) : z_J Z mX6_addMachine R k n Q 80 ls (.ref a :: st) h := z_get dX6_addMachine_80 rfl fl_X6_76 hh hv g
def bX6_addMachine_83 : zB := [(83, .iconst 1, 84, nI 1), (84, .iadd, 85, nI 0)]
theorem bX6_addMachine_83_ok : z_ok cX6_addMachine 83 bX6_addMachine_83 85 = true := by decide +kernel
theorem iX6_addMachine_83 (hr : z_run 3 bX6_addMachine_83 ls st = some (ls', st')) (g : z_J Z mX6_addMachine R k n Q 85 ls' st' h) : z_J Z mX6_addMachine R k n Q 83 ls st h := z_jr bX6_addMachine_83 bX6_addMachine_83_ok hr g
theorem dX6_addMachine_85 : decode cX6_addMachine 85 = .ok (.putfield 76, 3) := by decide +kernel
theorem iX6_addMachine_85 (hh : h r = some (a, .inr (7, fs))) (hl : Nat.blt 7 fs.length = true) (g : z_J Z mX6_addMachine R k n Q 88 ls st (z_u h r (a, .inr (7, fs.set 7 (.int x))))) : z_J Z mX6_addMachine R k n Q 85 ls ((.int x) :: .ref a :: st) h := z_put dX6_addMachine_85 rfl fl_X6_76 fw_X6_7 rfl hh rfl rfl (by simpa [Nat.blt_eq] using hl) g
def bX6_addMachine_88 : zB := [(88, .aload_n 0, 89, nI 0)]
theorem bX6_addMachine_88_ok : z_ok cX6_addMachine 88 bX6_addMachine_88 89 = true := by decide +kernel
theorem iX6_addMachine_88 (hr : z_run 3 bX6_addMachine_88 ls st = some (ls', st')) (g : z_J Z mX6_addMachine R k n Q 89 ls' st' h) : z_J Z mX6_addMachine R k n Q 88 ls st h := z_jr bX6_addMachine_88 bX6_addMachine_88_ok hr g
theorem dX6_addMachine_89 : decode cX6_addMachine 89 = .ok (.getfield 76, 3) := by decide +kernel
theorem iX6_addMachine_89 (hh : h r = some (a, .inr (7, fs))) (hv : fs[7]? = some v) (g : z_J Z mX6_addMachine R k n Q 92 ls (v :: st) h) : z_J Z mX6_addMachine R k n Q 89 ls (.ref a :: st) h := z_get dX6_addMachine_89 rfl fl_X6_76 hh hv g
def bX6_addMachine_92 : zB := [(92, .iconst 1, 93, nI 1), (93, .isub, 94, nI 0)]
theorem bX6_addMachine_92_ok : z_ok cX6_addMachine 92 bX6_addMachine_92 94 = true := by decide +kernel
theorem iX6_addMachine_92 (hr : z_run 3 bX6_addMachine_92 ls st = some (ls', st')) (g : z_J Z mX6_addMachine R k n Q 94 ls' st' h) : z_J Z mX6_addMachine R k n Q 92 ls st h := z_jr bX6_addMachine_92 bX6_addMachine_92_ok hr g
theorem dX6_addMachine_94 : decode cX6_addMachine 94 = .ok (.ireturn, 1) := by decide +kernel
theorem iX6_addMachine_94 (hk : k ≤ R.cells) (hs : n ≤ R.slots) (hq : Q (.inl (some (.int x))) h) : z_J Z mX6_addMachine R k n Q 94 ls [.int x] h := z_iret (ty := .int) dX6_addMachine_94 rfl rfl hk hs hq
/-! X6_setCores -/
def bX6_setCores_0 : zB := [(0, .aload_n 0, 1, nI 0), (1, .aload_n 0, 2, nI 0), (2, .iload_n 1, 3, nI 0)]
theorem bX6_setCores_0_ok : z_ok cX6_setCores 0 bX6_setCores_0 3 = true := by decide +kernel
theorem iX6_setCores_0 (hr : z_run 4 bX6_setCores_0 ls st = some (ls', st')) (g : z_J Z mX6_setCores R k n Q 3 ls' st' h) : z_J Z mX6_setCores R k n Q 0 ls st h := z_jr bX6_setCores_0 bX6_setCores_0_ok hr g
theorem dX6_setCores_3 : decode cX6_setCores 3 = .ok (.invokevirtual 86, 3) := by decide +kernel
theorem iX6_setCores_3 (ha : z_args 1 st [] = some (As, .ref b :: rest)) (hc : z_chk rest (.ref b :: As) 2 = true) (hh : h r = some (b, .inr (7, fs))) (hR : z_rm R R' 2 k n) (gc : z_J Z mX6_isMachine R' 0 0 Q' 0 (.ref b :: As) [] h) (kr : ∀ (v : Option Value) (h' : zH), Q' (.inl v) h' → z_J Z mX6_setCores R (k + R'.cells) (n + R'.slots) Q 6 ls (v.toList ++ rest) h') (kx : ∀ (E : String) (h' : zH), Q' (.inr E) h' → z_JX Z mX6_setCores R (k + R'.cells) (n + R'.slots) Q 3 ls E h') : z_J Z mX6_setCores R k n Q 3 ls st h := z_callV (M' := mX6_isMachine) dX6_setCores_3 rfl cs_X6_86 rfl gw825 gwp18 ha hh (ci := 7) rfl hR (z_chk1 hc) (z_chk2 hc) (z_chk3 hc) gc kr kx
theorem dX6_setCores_6 : decode cX6_setCores 6 = .ok (.ifCond .ne 7, 3) := by decide +kernel
theorem iX6_setCores_6 (kt : ¬ x = 0 → z_J Z mX6_setCores R k n Q 13 ls st h) (kf : x = 0 → z_J Z mX6_setCores R k n Q 9 ls st h) : z_J Z mX6_setCores R k n Q 6 ls (.int x :: st) h := z_if_ne dX6_setCores_6 (tgt := 13) (by decide) rfl kt kf
def bX6_setCores_9 : zB := [(9, .iconst 1, 10, nI 1), (10, .goto 18, 28, nI 0)]
theorem bX6_setCores_9_ok : z_ok cX6_setCores 9 bX6_setCores_9 28 = true := by decide +kernel
theorem iX6_setCores_9 (hr : z_run 4 bX6_setCores_9 ls st = some (ls', st')) (g : z_J Z mX6_setCores R k n Q 28 ls' st' h) : z_J Z mX6_setCores R k n Q 9 ls st h := z_jr bX6_setCores_9 bX6_setCores_9_ok hr g
def bX6_setCores_13 : zB := [(13, .iload_n 2, 14, nI 0), (14, .iconst 1, 15, nI 1), (15, .bipush 64, 17, nI 64)]
theorem bX6_setCores_13_ok : z_ok cX6_setCores 13 bX6_setCores_13 17 = true := by decide +kernel
theorem iX6_setCores_13 (hr : z_run 4 bX6_setCores_13 ls st = some (ls', st')) (g : z_J Z mX6_setCores R k n Q 17 ls' st' h) : z_J Z mX6_setCores R k n Q 13 ls st h := z_jr bX6_setCores_13 bX6_setCores_13_ok hr g
theorem dX6_setCores_17 : decode cX6_setCores 17 = .ok (.invokestatic 72, 3) := by decide +kernel
theorem iX6_setCores_17 (ha : z_args 3 st [] = some (As, rest)) (hc : z_chk rest As 3 = true) (hR : z_rm R R' 3 k n) (gc : z_J Z mX6_in R' 0 0 Q' 0 As [] h) (kr : ∀ (v : Option Value) (h' : zH), Q' (.inl v) h' → z_J Z mX6_setCores R (k + R'.cells) (n + R'.slots) Q 20 ls (v.toList ++ rest) h') (kx : ∀ (E : String) (h' : zH), Q' (.inr E) h' → z_JX Z mX6_setCores R (k + R'.cells) (n + R'.slots) Q 17 ls E h') : z_J Z mX6_setCores R k n Q 17 ls st h := z_callS (M' := mX6_in) dX6_setCores_17 rfl cs_X6_72 gw801 ha hR (z_chk1 hc) (z_chk2 hc) (z_chk3 hc) gc kr kx
theorem dX6_setCores_20 : decode cX6_setCores 20 = .ok (.ifCond .eq 7, 3) := by decide +kernel
theorem iX6_setCores_20 (kt : x = 0 → z_J Z mX6_setCores R k n Q 27 ls st h) (kf : ¬ x = 0 → z_J Z mX6_setCores R k n Q 23 ls st h) : z_J Z mX6_setCores R k n Q 20 ls (.int x :: st) h := z_if_eq dX6_setCores_20 (tgt := 27) (by decide) rfl kt kf
def bX6_setCores_23 : zB := [(23, .iconst 0, 24, nI 0), (24, .goto 4, 28, nI 0)]
theorem bX6_setCores_23_ok : z_ok cX6_setCores 23 bX6_setCores_23 28 = true := by decide +kernel
theorem iX6_setCores_23 (hr : z_run 4 bX6_setCores_23 ls st = some (ls', st')) (g : z_J Z mX6_setCores R k n Q 28 ls' st' h) : z_J Z mX6_setCores R k n Q 23 ls st h := z_jr bX6_setCores_23 bX6_setCores_23_ok hr g
def bX6_setCores_27 : zB := [(27, .iconst 2, 28, nI 2)]
theorem bX6_setCores_27_ok : z_ok cX6_setCores 27 bX6_setCores_27 28 = true := by decide +kernel
theorem iX6_setCores_27 (hr : z_run 4 bX6_setCores_27 ls st = some (ls', st')) (g : z_J Z mX6_setCores R k n Q 28 ls' st' h) : z_J Z mX6_setCores R k n Q 27 ls st h := z_jr bX6_setCores_27 bX6_setCores_27_ok hr g
theorem dX6_setCores_28 : decode cX6_setCores 28 = .ok (.putfield 68, 3) := by decide +kernel
theorem iX6_setCores_28 (hh : h r = some (a, .inr (7, fs))) (hl : Nat.blt 0 fs.length = true) (g : z_J Z mX6_setCores R k n Q 31 ls st (z_u h r (a, .inr (7, fs.set 0 (.int x))))) : z_J Z mX6_setCores R k n Q 28 ls ((.int x) :: .ref a :: st) h := z_put dX6_setCores_28 rfl fl_X6_68 fw_X6_0 rfl hh rfl rfl (by simpa [Nat.blt_eq] using hl) g
def bX6_setCores_31 : zB := [(31, .aload_n 0, 32, nI 0)]
theorem bX6_setCores_31_ok : z_ok cX6_setCores 31 bX6_setCores_31 32 = true := by decide +kernel
theorem iX6_setCores_31 (hr : z_run 4 bX6_setCores_31 ls st = some (ls', st')) (g : z_J Z mX6_setCores R k n Q 32 ls' st' h) : z_J Z mX6_setCores R k n Q 31 ls st h := z_jr bX6_setCores_31 bX6_setCores_31_ok hr g
theorem dX6_setCores_32 : decode cX6_setCores 32 = .ok (.getfield 68, 3) := by decide +kernel
theorem iX6_setCores_32 (hh : h r = some (a, .inr (7, fs))) (hv : fs[0]? = some v) (g : z_J Z mX6_setCores R k n Q 35 ls (v :: st) h) : z_J Z mX6_setCores R k n Q 32 ls (.ref a :: st) h := z_get dX6_setCores_32 rfl fl_X6_68 hh hv g
theorem dX6_setCores_35 : decode cX6_setCores 35 = .ok (.ifCond .le 5, 3) := by decide +kernel
theorem iX6_setCores_35 (kt : x ≤ 0 → z_J Z mX6_setCores R k n Q 40 ls st h) (kf : ¬ x ≤ 0 → z_J Z mX6_setCores R k n Q 38 ls st h) : z_J Z mX6_setCores R k n Q 35 ls (.int x :: st) h := z_if_le dX6_setCores_35 (tgt := 40) (by decide) rfl kt kf
def bX6_setCores_38 : zB := [(38, .iconst 0, 39, nI 0)]
theorem bX6_setCores_38_ok : z_ok cX6_setCores 38 bX6_setCores_38 39 = true := by decide +kernel
theorem iX6_setCores_38 (hr : z_run 4 bX6_setCores_38 ls st = some (ls', st')) (g : z_J Z mX6_setCores R k n Q 39 ls' st' h) : z_J Z mX6_setCores R k n Q 38 ls st h := z_jr bX6_setCores_38 bX6_setCores_38_ok hr g
theorem dX6_setCores_39 : decode cX6_setCores 39 = .ok (.ireturn, 1) := by decide +kernel
theorem iX6_setCores_39 (hk : k ≤ R.cells) (hs : n ≤ R.slots) (hq : Q (.inl (some (.int x))) h) : z_J Z mX6_setCores R k n Q 39 ls [.int x] h := z_iret (ty := .int) dX6_setCores_39 rfl rfl hk hs hq
def bX6_setCores_40 : zB := [(40, .aload_n 0, 41, nI 0)]
theorem bX6_setCores_40_ok : z_ok cX6_setCores 40 bX6_setCores_40 41 = true := by decide +kernel
theorem iX6_setCores_40 (hr : z_run 4 bX6_setCores_40 ls st = some (ls', st')) (g : z_J Z mX6_setCores R k n Q 41 ls' st' h) : z_J Z mX6_setCores R k n Q 40 ls st h := z_jr bX6_setCores_40 bX6_setCores_40_ok hr g
theorem dX6_setCores_41 : decode cX6_setCores 41 = .ok (.getfield 25, 3) := by decide +kernel
theorem iX6_setCores_41 (hh : h r = some (a, .inr (7, fs))) (hv : fs[8]? = some v) (g : z_J Z mX6_setCores R k n Q 44 ls (v :: st) h) : z_J Z mX6_setCores R k n Q 41 ls (.ref a :: st) h := z_get dX6_setCores_41 rfl fl_X6_25 hh hv g
def bX6_setCores_44 : zB := [(44, .iload_n 1, 45, nI 0)]
theorem bX6_setCores_44_ok : z_ok cX6_setCores 44 bX6_setCores_44 45 = true := by decide +kernel
theorem iX6_setCores_44 (hr : z_run 4 bX6_setCores_44 ls st = some (ls', st')) (g : z_J Z mX6_setCores R k n Q 45 ls' st' h) : z_J Z mX6_setCores R k n Q 44 ls st h := z_jr bX6_setCores_44 bX6_setCores_44_ok hr g
theorem dX6_setCores_45 : decode cX6_setCores 45 = .ok (.iaload, 1) := by decide +kernel
theorem iX6_setCores_45 {f : Nat → Int32} (hh : h r = some (a, .inl (0, N, .inl f))) (hi : i = nI j) (hj : j < N) (hN : N < 2 ^ 31) (g : z_J Z mX6_setCores R k n Q 46 ls (.int (f j) :: st) h) : z_J Z mX6_setCores R k n Q 45 ls (.int i :: .ref a :: st) h := z_iald dX6_setCores_45 rfl hh hi hj hN g
def bX6_setCores_46 : zB := [(46, .istore_n 3, 47, nI 0), (47, .aload_n 0, 48, nI 0)]
theorem bX6_setCores_46_ok : z_ok cX6_setCores 46 bX6_setCores_46 48 = true := by decide +kernel
theorem iX6_setCores_46 (hr : z_run 4 bX6_setCores_46 ls st = some (ls', st')) (g : z_J Z mX6_setCores R k n Q 48 ls' st' h) : z_J Z mX6_setCores R k n Q 46 ls st h := z_jr bX6_setCores_46 bX6_setCores_46_ok hr g
theorem dX6_setCores_48 : decode cX6_setCores 48 = .ok (.getfield 25, 3) := by decide +kernel
theorem iX6_setCores_48 (hh : h r = some (a, .inr (7, fs))) (hv : fs[8]? = some v) (g : z_J Z mX6_setCores R k n Q 51 ls (v :: st) h) : z_J Z mX6_setCores R k n Q 48 ls (.ref a :: st) h := z_get dX6_setCores_48 rfl fl_X6_25 hh hv g
def bX6_setCores_51 : zB := [(51, .iload_n 1, 52, nI 0), (52, .iload_n 2, 53, nI 0)]
theorem bX6_setCores_51_ok : z_ok cX6_setCores 51 bX6_setCores_51 53 = true := by decide +kernel
theorem iX6_setCores_51 (hr : z_run 4 bX6_setCores_51 ls st = some (ls', st')) (g : z_J Z mX6_setCores R k n Q 53 ls' st' h) : z_J Z mX6_setCores R k n Q 51 ls st h := z_jr bX6_setCores_51 bX6_setCores_51_ok hr g
theorem dX6_setCores_53 : decode cX6_setCores 53 = .ok (.iastore, 1) := by decide +kernel
theorem iX6_setCores_53 {f : Nat → Int32} (hh : h r = some (a, .inl (0, N, .inl f))) (hi : i = nI j) (hj : j < N) (hN : N < 2 ^ 31) (g : z_J Z mX6_setCores R k n Q 54 ls st (z_u h r (a, .inl (0, N, .inl (upd f j x))))) : z_J Z mX6_setCores R k n Q 53 ls (.int x :: .int i :: .ref a :: st) h := z_iast dX6_setCores_53 rfl hh hi hj hN g
def bX6_setCores_54 : zB := [(54, .iload_n 3, 55, nI 0)]
theorem bX6_setCores_54_ok : z_ok cX6_setCores 54 bX6_setCores_54 55 = true := by decide +kernel
theorem iX6_setCores_54 (hr : z_run 4 bX6_setCores_54 ls st = some (ls', st')) (g : z_J Z mX6_setCores R k n Q 55 ls' st' h) : z_J Z mX6_setCores R k n Q 54 ls st h := z_jr bX6_setCores_54 bX6_setCores_54_ok hr g
theorem dX6_setCores_55 : decode cX6_setCores 55 = .ok (.ireturn, 1) := by decide +kernel
theorem iX6_setCores_55 (hk : k ≤ R.cells) (hs : n ≤ R.slots) (hq : Q (.inl (some (.int x))) h) : z_J Z mX6_setCores R k n Q 55 ls [.int x] h := z_iret (ty := .int) dX6_setCores_55 rfl rfl hk hs hq
/-! X6_countsBy -/
def bX6_countsBy_0 : zB := [(0, .iload_n 1, 1, nI 0), (1, .istore_n 2, 2, nI 0)]
theorem bX6_countsBy_0_ok : z_ok cX6_countsBy 0 bX6_countsBy_0 2 = true := by decide +kernel
theorem iX6_countsBy_0 (hr : z_run 3 bX6_countsBy_0 ls st = some (ls', st')) (g : z_J Z mX6_countsBy R k n Q 2 ls' st' h) : z_J Z mX6_countsBy R k n Q 0 ls st h := z_jr bX6_countsBy_0 bX6_countsBy_0_ok hr g
def bX6_countsBy_2 : zB := [(2, .aload_n 0, 3, nI 0)]
theorem bX6_countsBy_2_ok : z_ok cX6_countsBy 2 bX6_countsBy_2 3 = true := by decide +kernel
theorem iX6_countsBy_2 (hr : z_run 3 bX6_countsBy_2 ls st = some (ls', st')) (g : z_J Z mX6_countsBy R k n Q 3 ls' st' h) : z_J Z mX6_countsBy R k n Q 2 ls st h := z_jr bX6_countsBy_2 bX6_countsBy_2_ok hr g
theorem dX6_countsBy_3 : decode cX6_countsBy 3 = .ok (.getfield 28, 3) := by decide +kernel
theorem iX6_countsBy_3 (hh : h r = some (a, .inr (7, fs))) (hv : fs[9]? = some v) (g : z_J Z mX6_countsBy R k n Q 6 ls (v :: st) h) : z_J Z mX6_countsBy R k n Q 3 ls (.ref a :: st) h := z_get dX6_countsBy_3 rfl fl_X6_28 hh hv g
def bX6_countsBy_6 : zB := [(6, .iload_n 2, 7, nI 0)]
theorem bX6_countsBy_6_ok : z_ok cX6_countsBy 6 bX6_countsBy_6 7 = true := by decide +kernel
theorem iX6_countsBy_6 (hr : z_run 3 bX6_countsBy_6 ls st = some (ls', st')) (g : z_J Z mX6_countsBy R k n Q 7 ls' st' h) : z_J Z mX6_countsBy R k n Q 6 ls st h := z_jr bX6_countsBy_6 bX6_countsBy_6_ok hr g
theorem dX6_countsBy_7 : decode cX6_countsBy 7 = .ok (.iaload, 1) := by decide +kernel
theorem iX6_countsBy_7 {f : Nat → Int32} (hh : h r = some (a, .inl (0, N, .inl f))) (hi : i = nI j) (hj : j < N) (hN : N < 2 ^ 31) (g : z_J Z mX6_countsBy R k n Q 8 ls (.int (f j) :: st) h) : z_J Z mX6_countsBy R k n Q 7 ls (.int i :: .ref a :: st) h := z_iald dX6_countsBy_7 rfl hh hi hj hN g
def bX6_countsBy_8 : zB := [(8, .iconst (-1), 9, -1)]
theorem bX6_countsBy_8_ok : z_ok cX6_countsBy 8 bX6_countsBy_8 9 = true := by decide +kernel
theorem iX6_countsBy_8 (hr : z_run 3 bX6_countsBy_8 ls st = some (ls', st')) (g : z_J Z mX6_countsBy R k n Q 9 ls' st' h) : z_J Z mX6_countsBy R k n Q 8 ls st h := z_jr bX6_countsBy_8 bX6_countsBy_8_ok hr g
theorem dX6_countsBy_9 : decode cX6_countsBy 9 = .ok (.if_icmp .eq 22, 3) := by decide +kernel
theorem iX6_countsBy_9 (kt : x = y → z_J Z mX6_countsBy R k n Q 31 ls st h) (kf : ¬ x = y → z_J Z mX6_countsBy R k n Q 12 ls st h) : z_J Z mX6_countsBy R k n Q 9 ls (.int y :: .int x :: st) h := z_ic_eq dX6_countsBy_9 (tgt := 31) (by decide) rfl kt kf
def bX6_countsBy_12 : zB := [(12, .aload_n 0, 13, nI 0)]
theorem bX6_countsBy_12_ok : z_ok cX6_countsBy 12 bX6_countsBy_12 13 = true := by decide +kernel
theorem iX6_countsBy_12 (hr : z_run 3 bX6_countsBy_12 ls st = some (ls', st')) (g : z_J Z mX6_countsBy R k n Q 13 ls' st' h) : z_J Z mX6_countsBy R k n Q 12 ls st h := z_jr bX6_countsBy_12 bX6_countsBy_12_ok hr g
theorem dX6_countsBy_13 : decode cX6_countsBy 13 = .ok (.getfield 31, 3) := by decide +kernel
theorem iX6_countsBy_13 (hh : h r = some (a, .inr (7, fs))) (hv : fs[10]? = some v) (g : z_J Z mX6_countsBy R k n Q 16 ls (v :: st) h) : z_J Z mX6_countsBy R k n Q 13 ls (.ref a :: st) h := z_get dX6_countsBy_13 rfl fl_X6_31 hh hv g
def bX6_countsBy_16 : zB := [(16, .iload_n 2, 17, nI 0)]
theorem bX6_countsBy_16_ok : z_ok cX6_countsBy 16 bX6_countsBy_16 17 = true := by decide +kernel
theorem iX6_countsBy_16 (hr : z_run 3 bX6_countsBy_16 ls st = some (ls', st')) (g : z_J Z mX6_countsBy R k n Q 17 ls' st' h) : z_J Z mX6_countsBy R k n Q 16 ls st h := z_jr bX6_countsBy_16 bX6_countsBy_16_ok hr g
theorem dX6_countsBy_17 : decode cX6_countsBy 17 = .ok (.baload, 1) := by decide +kernel
theorem iX6_countsBy_17 {f : Nat → Int32} (hh : h r = some (a, .inl (1, N, .inl f))) (hi : i = nI j) (hj : j < N) (hN : N < 2 ^ 31) (g : z_J Z mX6_countsBy R k n Q 18 ls (.int (f j) :: st) h) : z_J Z mX6_countsBy R k n Q 17 ls (.int i :: .ref a :: st) h := z_zald dX6_countsBy_17 rfl hh hi hj hN g
theorem dX6_countsBy_18 : decode cX6_countsBy 18 = .ok (.ifCond .ne 13, 3) := by decide +kernel
theorem iX6_countsBy_18 (kt : ¬ x = 0 → z_J Z mX6_countsBy R k n Q 31 ls st h) (kf : x = 0 → z_J Z mX6_countsBy R k n Q 21 ls st h) : z_J Z mX6_countsBy R k n Q 18 ls (.int x :: st) h := z_if_ne dX6_countsBy_18 (tgt := 31) (by decide) rfl kt kf
def bX6_countsBy_21 : zB := [(21, .aload_n 0, 22, nI 0)]
theorem bX6_countsBy_21_ok : z_ok cX6_countsBy 21 bX6_countsBy_21 22 = true := by decide +kernel
theorem iX6_countsBy_21 (hr : z_run 3 bX6_countsBy_21 ls st = some (ls', st')) (g : z_J Z mX6_countsBy R k n Q 22 ls' st' h) : z_J Z mX6_countsBy R k n Q 21 ls st h := z_jr bX6_countsBy_21 bX6_countsBy_21_ok hr g
theorem dX6_countsBy_22 : decode cX6_countsBy 22 = .ok (.getfield 28, 3) := by decide +kernel
theorem iX6_countsBy_22 (hh : h r = some (a, .inr (7, fs))) (hv : fs[9]? = some v) (g : z_J Z mX6_countsBy R k n Q 25 ls (v :: st) h) : z_J Z mX6_countsBy R k n Q 22 ls (.ref a :: st) h := z_get dX6_countsBy_22 rfl fl_X6_28 hh hv g
def bX6_countsBy_25 : zB := [(25, .iload_n 2, 26, nI 0)]
theorem bX6_countsBy_25_ok : z_ok cX6_countsBy 25 bX6_countsBy_25 26 = true := by decide +kernel
theorem iX6_countsBy_25 (hr : z_run 3 bX6_countsBy_25 ls st = some (ls', st')) (g : z_J Z mX6_countsBy R k n Q 26 ls' st' h) : z_J Z mX6_countsBy R k n Q 25 ls st h := z_jr bX6_countsBy_25 bX6_countsBy_25_ok hr g
theorem dX6_countsBy_26 : decode cX6_countsBy 26 = .ok (.iaload, 1) := by decide +kernel
theorem iX6_countsBy_26 {f : Nat → Int32} (hh : h r = some (a, .inl (0, N, .inl f))) (hi : i = nI j) (hj : j < N) (hN : N < 2 ^ 31) (g : z_J Z mX6_countsBy R k n Q 27 ls (.int (f j) :: st) h) : z_J Z mX6_countsBy R k n Q 26 ls (.int i :: .ref a :: st) h := z_iald dX6_countsBy_26 rfl hh hi hj hN g
def bX6_countsBy_27 : zB := [(27, .istore_n 2, 28, nI 0), (28, .goto (-26), 2, nI 0)]
theorem bX6_countsBy_27_ok : z_ok cX6_countsBy 27 bX6_countsBy_27 2 = true := by decide +kernel
theorem iX6_countsBy_27 (hr : z_run 3 bX6_countsBy_27 ls st = some (ls', st')) (g : z_J Z mX6_countsBy R k n Q 2 ls' st' h) : z_J Z mX6_countsBy R k n Q 27 ls st h := z_jr bX6_countsBy_27 bX6_countsBy_27_ok hr g
def bX6_countsBy_31 : zB := [(31, .iload_n 2, 32, nI 0)]
theorem bX6_countsBy_31_ok : z_ok cX6_countsBy 31 bX6_countsBy_31 32 = true := by decide +kernel
theorem iX6_countsBy_31 (hr : z_run 3 bX6_countsBy_31 ls st = some (ls', st')) (g : z_J Z mX6_countsBy R k n Q 32 ls' st' h) : z_J Z mX6_countsBy R k n Q 31 ls st h := z_jr bX6_countsBy_31 bX6_countsBy_31_ok hr g
theorem dX6_countsBy_32 : decode cX6_countsBy 32 = .ok (.ireturn, 1) := by decide +kernel
theorem iX6_countsBy_32 (hk : k ≤ R.cells) (hs : n ≤ R.slots) (hq : Q (.inl (some (.int x))) h) : z_J Z mX6_countsBy R k n Q 32 ls [.int x] h := z_iret (ty := .int) dX6_countsBy_32 rfl rfl hk hs hq
/-! X6_tellApart -/
def bX6_tellApart_0 : zB := [(0, .aload_n 0, 1, nI 0), (1, .aload_n 0, 2, nI 0), (2, .iload_n 1, 3, nI 0)]
theorem bX6_tellApart_0_ok : z_ok cX6_tellApart 0 bX6_tellApart_0 3 = true := by decide +kernel
theorem iX6_tellApart_0 (hr : z_run 3 bX6_tellApart_0 ls st = some (ls', st')) (g : z_J Z mX6_tellApart R k n Q 3 ls' st' h) : z_J Z mX6_tellApart R k n Q 0 ls st h := z_jr bX6_tellApart_0 bX6_tellApart_0_ok hr g
theorem dX6_tellApart_3 : decode cX6_tellApart 3 = .ok (.invokevirtual 86, 3) := by decide +kernel
theorem iX6_tellApart_3 (ha : z_args 1 st [] = some (As, .ref b :: rest)) (hc : z_chk rest (.ref b :: As) 2 = true) (hh : h r = some (b, .inr (7, fs))) (hR : z_rm R R' 2 k n) (gc : z_J Z mX6_isMachine R' 0 0 Q' 0 (.ref b :: As) [] h) (kr : ∀ (v : Option Value) (h' : zH), Q' (.inl v) h' → z_J Z mX6_tellApart R (k + R'.cells) (n + R'.slots) Q 6 ls (v.toList ++ rest) h') (kx : ∀ (E : String) (h' : zH), Q' (.inr E) h' → z_JX Z mX6_tellApart R (k + R'.cells) (n + R'.slots) Q 3 ls E h') : z_J Z mX6_tellApart R k n Q 3 ls st h := z_callV (M' := mX6_isMachine) dX6_tellApart_3 rfl cs_X6_86 rfl gw825 gwp18 ha hh (ci := 7) rfl hR (z_chk1 hc) (z_chk2 hc) (z_chk3 hc) gc kr kx
theorem dX6_tellApart_6 : decode cX6_tellApart 6 = .ok (.ifCond .eq 7, 3) := by decide +kernel
theorem iX6_tellApart_6 (kt : x = 0 → z_J Z mX6_tellApart R k n Q 13 ls st h) (kf : ¬ x = 0 → z_J Z mX6_tellApart R k n Q 9 ls st h) : z_J Z mX6_tellApart R k n Q 6 ls (.int x :: st) h := z_if_eq dX6_tellApart_6 (tgt := 13) (by decide) rfl kt kf
def bX6_tellApart_9 : zB := [(9, .iconst 0, 10, nI 0), (10, .goto 4, 14, nI 0)]
theorem bX6_tellApart_9_ok : z_ok cX6_tellApart 9 bX6_tellApart_9 14 = true := by decide +kernel
theorem iX6_tellApart_9 (hr : z_run 3 bX6_tellApart_9 ls st = some (ls', st')) (g : z_J Z mX6_tellApart R k n Q 14 ls' st' h) : z_J Z mX6_tellApart R k n Q 9 ls st h := z_jr bX6_tellApart_9 bX6_tellApart_9_ok hr g
def bX6_tellApart_13 : zB := [(13, .iconst 1, 14, nI 1)]
theorem bX6_tellApart_13_ok : z_ok cX6_tellApart 13 bX6_tellApart_13 14 = true := by decide +kernel
theorem iX6_tellApart_13 (hr : z_run 3 bX6_tellApart_13 ls st = some (ls', st')) (g : z_J Z mX6_tellApart R k n Q 14 ls' st' h) : z_J Z mX6_tellApart R k n Q 13 ls st h := z_jr bX6_tellApart_13 bX6_tellApart_13_ok hr g
theorem dX6_tellApart_14 : decode cX6_tellApart 14 = .ok (.putfield 68, 3) := by decide +kernel
theorem iX6_tellApart_14 (hh : h r = some (a, .inr (7, fs))) (hl : Nat.blt 0 fs.length = true) (g : z_J Z mX6_tellApart R k n Q 17 ls st (z_u h r (a, .inr (7, fs.set 0 (.int x))))) : z_J Z mX6_tellApart R k n Q 14 ls ((.int x) :: .ref a :: st) h := z_put dX6_tellApart_14 rfl fl_X6_68 fw_X6_0 rfl hh rfl rfl (by simpa [Nat.blt_eq] using hl) g
def bX6_tellApart_17 : zB := [(17, .aload_n 0, 18, nI 0)]
theorem bX6_tellApart_17_ok : z_ok cX6_tellApart 17 bX6_tellApart_17 18 = true := by decide +kernel
theorem iX6_tellApart_17 (hr : z_run 3 bX6_tellApart_17 ls st = some (ls', st')) (g : z_J Z mX6_tellApart R k n Q 18 ls' st' h) : z_J Z mX6_tellApart R k n Q 17 ls st h := z_jr bX6_tellApart_17 bX6_tellApart_17_ok hr g
theorem dX6_tellApart_18 : decode cX6_tellApart 18 = .ok (.getfield 68, 3) := by decide +kernel
theorem iX6_tellApart_18 (hh : h r = some (a, .inr (7, fs))) (hv : fs[0]? = some v) (g : z_J Z mX6_tellApart R k n Q 21 ls (v :: st) h) : z_J Z mX6_tellApart R k n Q 18 ls (.ref a :: st) h := z_get dX6_tellApart_18 rfl fl_X6_68 hh hv g
theorem dX6_tellApart_21 : decode cX6_tellApart 21 = .ok (.ifCond .le 5, 3) := by decide +kernel
theorem iX6_tellApart_21 (kt : x ≤ 0 → z_J Z mX6_tellApart R k n Q 26 ls st h) (kf : ¬ x ≤ 0 → z_J Z mX6_tellApart R k n Q 24 ls st h) : z_J Z mX6_tellApart R k n Q 21 ls (.int x :: st) h := z_if_le dX6_tellApart_21 (tgt := 26) (by decide) rfl kt kf
def bX6_tellApart_24 : zB := [(24, .iconst 0, 25, nI 0)]
theorem bX6_tellApart_24_ok : z_ok cX6_tellApart 24 bX6_tellApart_24 25 = true := by decide +kernel
theorem iX6_tellApart_24 (hr : z_run 3 bX6_tellApart_24 ls st = some (ls', st')) (g : z_J Z mX6_tellApart R k n Q 25 ls' st' h) : z_J Z mX6_tellApart R k n Q 24 ls st h := z_jr bX6_tellApart_24 bX6_tellApart_24_ok hr g
theorem dX6_tellApart_25 : decode cX6_tellApart 25 = .ok (.ireturn, 1) := by decide +kernel
theorem iX6_tellApart_25 (hk : k ≤ R.cells) (hs : n ≤ R.slots) (hq : Q (.inl (some (.int x))) h) : z_J Z mX6_tellApart R k n Q 25 ls [.int x] h := z_iret (ty := .int) dX6_tellApart_25 rfl rfl hk hs hq
def bX6_tellApart_26 : zB := [(26, .aload_n 0, 27, nI 0)]
theorem bX6_tellApart_26_ok : z_ok cX6_tellApart 26 bX6_tellApart_26 27 = true := by decide +kernel
theorem iX6_tellApart_26 (hr : z_run 3 bX6_tellApart_26 ls st = some (ls', st')) (g : z_J Z mX6_tellApart R k n Q 27 ls' st' h) : z_J Z mX6_tellApart R k n Q 26 ls st h := z_jr bX6_tellApart_26 bX6_tellApart_26_ok hr g
theorem dX6_tellApart_27 : decode cX6_tellApart 27 = .ok (.getfield 31, 3) := by decide +kernel
theorem iX6_tellApart_27 (hh : h r = some (a, .inr (7, fs))) (hv : fs[10]? = some v) (g : z_J Z mX6_tellApart R k n Q 30 ls (v :: st) h) : z_J Z mX6_tellApart R k n Q 27 ls (.ref a :: st) h := z_get dX6_tellApart_27 rfl fl_X6_31 hh hv g
def bX6_tellApart_30 : zB := [(30, .iload_n 1, 31, nI 0), (31, .iload_n 2, 32, nI 0)]
theorem bX6_tellApart_30_ok : z_ok cX6_tellApart 30 bX6_tellApart_30 32 = true := by decide +kernel
theorem iX6_tellApart_30 (hr : z_run 3 bX6_tellApart_30 ls st = some (ls', st')) (g : z_J Z mX6_tellApart R k n Q 32 ls' st' h) : z_J Z mX6_tellApart R k n Q 30 ls st h := z_jr bX6_tellApart_30 bX6_tellApart_30_ok hr g
theorem dX6_tellApart_32 : decode cX6_tellApart 32 = .ok (.bastore, 1) := by decide +kernel
theorem iX6_tellApart_32 {f : Nat → Int32} (hh : h r = some (a, .inl (1, N, .inl f))) (hi : i = nI j) (hj : j < N) (hN : N < 2 ^ 31) (hz : vp_nar .boolean x = x) (g : z_J Z mX6_tellApart R k n Q 33 ls st (z_u h r (a, .inl (1, N, .inl (upd f j x))))) : z_J Z mX6_tellApart R k n Q 32 ls (.int x :: .int i :: .ref a :: st) h := z_zast dX6_tellApart_32 rfl hh hi hj hN hz g
def bX6_tellApart_33 : zB := [(33, .aload_n 0, 34, nI 0), (34, .iload_n 1, 35, nI 0)]
theorem bX6_tellApart_33_ok : z_ok cX6_tellApart 33 bX6_tellApart_33 35 = true := by decide +kernel
theorem iX6_tellApart_33 (hr : z_run 3 bX6_tellApart_33 ls st = some (ls', st')) (g : z_J Z mX6_tellApart R k n Q 35 ls' st' h) : z_J Z mX6_tellApart R k n Q 33 ls st h := z_jr bX6_tellApart_33 bX6_tellApart_33_ok hr g
theorem dX6_tellApart_35 : decode cX6_tellApart 35 = .ok (.invokevirtual 89, 3) := by decide +kernel
theorem iX6_tellApart_35 (ha : z_args 1 st [] = some (As, .ref b :: rest)) (hc : z_chk rest (.ref b :: As) 3 = true) (hh : h r = some (b, .inr (7, fs))) (hR : z_rm R R' 3 k n) (gc : z_J Z mX6_countsBy R' 0 0 Q' 0 (.ref b :: As) [] h) (kr : ∀ (v : Option Value) (h' : zH), Q' (.inl v) h' → z_J Z mX6_tellApart R (k + R'.cells) (n + R'.slots) Q 38 ls (v.toList ++ rest) h') (kx : ∀ (E : String) (h' : zH), Q' (.inr E) h' → z_JX Z mX6_tellApart R (k + R'.cells) (n + R'.slots) Q 35 ls E h') : z_J Z mX6_tellApart R k n Q 35 ls st h := z_callV (M' := mX6_countsBy) dX6_tellApart_35 rfl cs_X6_89 rfl gw837 gwp19 ha hh (ci := 7) rfl hR (z_chk1 hc) (z_chk2 hc) (z_chk3 hc) gc kr kx
theorem dX6_tellApart_38 : decode cX6_tellApart 38 = .ok (.ireturn, 1) := by decide +kernel
theorem iX6_tellApart_38 (hk : k ≤ R.cells) (hs : n ≤ R.slots) (hq : Q (.inl (some (.int x))) h) : z_J Z mX6_tellApart R k n Q 38 ls [.int x] h := z_iret (ty := .int) dX6_tellApart_38 rfl rfl hk hs hq
/-! X6_setCoresOfUnit -/
def bX6_setCoresOfUnit_0 : zB := [(0, .aload_n 0, 1, nI 0), (1, .iload_n 1, 2, nI 0)]
theorem bX6_setCoresOfUnit_0_ok : z_ok cX6_setCoresOfUnit 0 bX6_setCoresOfUnit_0 2 = true := by decide +kernel
theorem iX6_setCoresOfUnit_0 (hr : z_run 4 bX6_setCoresOfUnit_0 ls st = some (ls', st')) (g : z_J Z mX6_setCoresOfUnit R k n Q 2 ls' st' h) : z_J Z mX6_setCoresOfUnit R k n Q 0 ls st h := z_jr bX6_setCoresOfUnit_0 bX6_setCoresOfUnit_0_ok hr g
theorem dX6_setCoresOfUnit_2 : decode cX6_setCoresOfUnit 2 = .ok (.invokestatic 93, 3) := by decide +kernel
theorem iX6_setCoresOfUnit_2 (ha : z_args 1 st [] = some (As, rest)) (hc : z_chk rest As 1 = true) (hR : z_rm R R' 1 k n) (gc : z_J Z mX6_isProduct R' 0 0 Q' 0 As [] h) (kr : ∀ (v : Option Value) (h' : zH), Q' (.inl v) h' → z_J Z mX6_setCoresOfUnit R (k + R'.cells) (n + R'.slots) Q 5 ls (v.toList ++ rest) h') (kx : ∀ (E : String) (h' : zH), Q' (.inr E) h' → z_JX Z mX6_setCoresOfUnit R (k + R'.cells) (n + R'.slots) Q 2 ls E h') : z_J Z mX6_setCoresOfUnit R k n Q 2 ls st h := z_callS (M' := mX6_isProduct) dX6_setCoresOfUnit_2 rfl cs_X6_93 gw844 ha hR (z_chk1 hc) (z_chk2 hc) (z_chk3 hc) gc kr kx
theorem dX6_setCoresOfUnit_5 : decode cX6_setCoresOfUnit 5 = .ok (.ifCond .ne 7, 3) := by decide +kernel
theorem iX6_setCoresOfUnit_5 (kt : ¬ x = 0 → z_J Z mX6_setCoresOfUnit R k n Q 12 ls st h) (kf : x = 0 → z_J Z mX6_setCoresOfUnit R k n Q 8 ls st h) : z_J Z mX6_setCoresOfUnit R k n Q 5 ls (.int x :: st) h := z_if_ne dX6_setCoresOfUnit_5 (tgt := 12) (by decide) rfl kt kf
def bX6_setCoresOfUnit_8 : zB := [(8, .iconst 1, 9, nI 1), (9, .goto 18, 27, nI 0)]
theorem bX6_setCoresOfUnit_8_ok : z_ok cX6_setCoresOfUnit 8 bX6_setCoresOfUnit_8 27 = true := by decide +kernel
theorem iX6_setCoresOfUnit_8 (hr : z_run 4 bX6_setCoresOfUnit_8 ls st = some (ls', st')) (g : z_J Z mX6_setCoresOfUnit R k n Q 27 ls' st' h) : z_J Z mX6_setCoresOfUnit R k n Q 8 ls st h := z_jr bX6_setCoresOfUnit_8 bX6_setCoresOfUnit_8_ok hr g
def bX6_setCoresOfUnit_12 : zB := [(12, .iload_n 2, 13, nI 0), (13, .iconst 1, 14, nI 1), (14, .bipush 16, 16, nI 16)]
theorem bX6_setCoresOfUnit_12_ok : z_ok cX6_setCoresOfUnit 12 bX6_setCoresOfUnit_12 16 = true := by decide +kernel
theorem iX6_setCoresOfUnit_12 (hr : z_run 4 bX6_setCoresOfUnit_12 ls st = some (ls', st')) (g : z_J Z mX6_setCoresOfUnit R k n Q 16 ls' st' h) : z_J Z mX6_setCoresOfUnit R k n Q 12 ls st h := z_jr bX6_setCoresOfUnit_12 bX6_setCoresOfUnit_12_ok hr g
theorem dX6_setCoresOfUnit_16 : decode cX6_setCoresOfUnit 16 = .ok (.invokestatic 72, 3) := by decide +kernel
theorem iX6_setCoresOfUnit_16 (ha : z_args 3 st [] = some (As, rest)) (hc : z_chk rest As 3 = true) (hR : z_rm R R' 3 k n) (gc : z_J Z mX6_in R' 0 0 Q' 0 As [] h) (kr : ∀ (v : Option Value) (h' : zH), Q' (.inl v) h' → z_J Z mX6_setCoresOfUnit R (k + R'.cells) (n + R'.slots) Q 19 ls (v.toList ++ rest) h') (kx : ∀ (E : String) (h' : zH), Q' (.inr E) h' → z_JX Z mX6_setCoresOfUnit R (k + R'.cells) (n + R'.slots) Q 16 ls E h') : z_J Z mX6_setCoresOfUnit R k n Q 16 ls st h := z_callS (M' := mX6_in) dX6_setCoresOfUnit_16 rfl cs_X6_72 gw801 ha hR (z_chk1 hc) (z_chk2 hc) (z_chk3 hc) gc kr kx
theorem dX6_setCoresOfUnit_19 : decode cX6_setCoresOfUnit 19 = .ok (.ifCond .eq 7, 3) := by decide +kernel
theorem iX6_setCoresOfUnit_19 (kt : x = 0 → z_J Z mX6_setCoresOfUnit R k n Q 26 ls st h) (kf : ¬ x = 0 → z_J Z mX6_setCoresOfUnit R k n Q 22 ls st h) : z_J Z mX6_setCoresOfUnit R k n Q 19 ls (.int x :: st) h := z_if_eq dX6_setCoresOfUnit_19 (tgt := 26) (by decide) rfl kt kf
def bX6_setCoresOfUnit_22 : zB := [(22, .iconst 0, 23, nI 0), (23, .goto 4, 27, nI 0)]
theorem bX6_setCoresOfUnit_22_ok : z_ok cX6_setCoresOfUnit 22 bX6_setCoresOfUnit_22 27 = true := by decide +kernel
theorem iX6_setCoresOfUnit_22 (hr : z_run 4 bX6_setCoresOfUnit_22 ls st = some (ls', st')) (g : z_J Z mX6_setCoresOfUnit R k n Q 27 ls' st' h) : z_J Z mX6_setCoresOfUnit R k n Q 22 ls st h := z_jr bX6_setCoresOfUnit_22 bX6_setCoresOfUnit_22_ok hr g
def bX6_setCoresOfUnit_26 : zB := [(26, .iconst 2, 27, nI 2)]
theorem bX6_setCoresOfUnit_26_ok : z_ok cX6_setCoresOfUnit 26 bX6_setCoresOfUnit_26 27 = true := by decide +kernel
theorem iX6_setCoresOfUnit_26 (hr : z_run 4 bX6_setCoresOfUnit_26 ls st = some (ls', st')) (g : z_J Z mX6_setCoresOfUnit R k n Q 27 ls' st' h) : z_J Z mX6_setCoresOfUnit R k n Q 26 ls st h := z_jr bX6_setCoresOfUnit_26 bX6_setCoresOfUnit_26_ok hr g
theorem dX6_setCoresOfUnit_27 : decode cX6_setCoresOfUnit 27 = .ok (.putfield 68, 3) := by decide +kernel
theorem iX6_setCoresOfUnit_27 (hh : h r = some (a, .inr (7, fs))) (hl : Nat.blt 0 fs.length = true) (g : z_J Z mX6_setCoresOfUnit R k n Q 30 ls st (z_u h r (a, .inr (7, fs.set 0 (.int x))))) : z_J Z mX6_setCoresOfUnit R k n Q 27 ls ((.int x) :: .ref a :: st) h := z_put dX6_setCoresOfUnit_27 rfl fl_X6_68 fw_X6_0 rfl hh rfl rfl (by simpa [Nat.blt_eq] using hl) g
def bX6_setCoresOfUnit_30 : zB := [(30, .aload_n 0, 31, nI 0)]
theorem bX6_setCoresOfUnit_30_ok : z_ok cX6_setCoresOfUnit 30 bX6_setCoresOfUnit_30 31 = true := by decide +kernel
theorem iX6_setCoresOfUnit_30 (hr : z_run 4 bX6_setCoresOfUnit_30 ls st = some (ls', st')) (g : z_J Z mX6_setCoresOfUnit R k n Q 31 ls' st' h) : z_J Z mX6_setCoresOfUnit R k n Q 30 ls st h := z_jr bX6_setCoresOfUnit_30 bX6_setCoresOfUnit_30_ok hr g
theorem dX6_setCoresOfUnit_31 : decode cX6_setCoresOfUnit 31 = .ok (.getfield 68, 3) := by decide +kernel
theorem iX6_setCoresOfUnit_31 (hh : h r = some (a, .inr (7, fs))) (hv : fs[0]? = some v) (g : z_J Z mX6_setCoresOfUnit R k n Q 34 ls (v :: st) h) : z_J Z mX6_setCoresOfUnit R k n Q 31 ls (.ref a :: st) h := z_get dX6_setCoresOfUnit_31 rfl fl_X6_68 hh hv g
theorem dX6_setCoresOfUnit_34 : decode cX6_setCoresOfUnit 34 = .ok (.ifCond .le 5, 3) := by decide +kernel
theorem iX6_setCoresOfUnit_34 (kt : x ≤ 0 → z_J Z mX6_setCoresOfUnit R k n Q 39 ls st h) (kf : ¬ x ≤ 0 → z_J Z mX6_setCoresOfUnit R k n Q 37 ls st h) : z_J Z mX6_setCoresOfUnit R k n Q 34 ls (.int x :: st) h := z_if_le dX6_setCoresOfUnit_34 (tgt := 39) (by decide) rfl kt kf
def bX6_setCoresOfUnit_37 : zB := [(37, .iconst 0, 38, nI 0)]
theorem bX6_setCoresOfUnit_37_ok : z_ok cX6_setCoresOfUnit 37 bX6_setCoresOfUnit_37 38 = true := by decide +kernel
theorem iX6_setCoresOfUnit_37 (hr : z_run 4 bX6_setCoresOfUnit_37 ls st = some (ls', st')) (g : z_J Z mX6_setCoresOfUnit R k n Q 38 ls' st' h) : z_J Z mX6_setCoresOfUnit R k n Q 37 ls st h := z_jr bX6_setCoresOfUnit_37 bX6_setCoresOfUnit_37_ok hr g
theorem dX6_setCoresOfUnit_38 : decode cX6_setCoresOfUnit 38 = .ok (.ireturn, 1) := by decide +kernel
theorem iX6_setCoresOfUnit_38 (hk : k ≤ R.cells) (hs : n ≤ R.slots) (hq : Q (.inl (some (.int x))) h) : z_J Z mX6_setCoresOfUnit R k n Q 38 ls [.int x] h := z_iret (ty := .int) dX6_setCoresOfUnit_38 rfl rfl hk hs hq
def bX6_setCoresOfUnit_39 : zB := [(39, .aload_n 0, 40, nI 0)]
theorem bX6_setCoresOfUnit_39_ok : z_ok cX6_setCoresOfUnit 39 bX6_setCoresOfUnit_39 40 = true := by decide +kernel
theorem iX6_setCoresOfUnit_39 (hr : z_run 4 bX6_setCoresOfUnit_39 ls st = some (ls', st')) (g : z_J Z mX6_setCoresOfUnit R k n Q 40 ls' st' h) : z_J Z mX6_setCoresOfUnit R k n Q 39 ls st h := z_jr bX6_setCoresOfUnit_39 bX6_setCoresOfUnit_39_ok hr g
theorem dX6_setCoresOfUnit_40 : decode cX6_setCoresOfUnit 40 = .ok (.getfield 35, 3) := by decide +kernel
theorem iX6_setCoresOfUnit_40 (hh : h r = some (a, .inr (7, fs))) (hv : fs[11]? = some v) (g : z_J Z mX6_setCoresOfUnit R k n Q 43 ls (v :: st) h) : z_J Z mX6_setCoresOfUnit R k n Q 40 ls (.ref a :: st) h := z_get dX6_setCoresOfUnit_40 rfl fl_X6_35 hh hv g
def bX6_setCoresOfUnit_43 : zB := [(43, .iload_n 1, 44, nI 0)]
theorem bX6_setCoresOfUnit_43_ok : z_ok cX6_setCoresOfUnit 43 bX6_setCoresOfUnit_43 44 = true := by decide +kernel
theorem iX6_setCoresOfUnit_43 (hr : z_run 4 bX6_setCoresOfUnit_43 ls st = some (ls', st')) (g : z_J Z mX6_setCoresOfUnit R k n Q 44 ls' st' h) : z_J Z mX6_setCoresOfUnit R k n Q 43 ls st h := z_jr bX6_setCoresOfUnit_43 bX6_setCoresOfUnit_43_ok hr g
theorem dX6_setCoresOfUnit_44 : decode cX6_setCoresOfUnit 44 = .ok (.iaload, 1) := by decide +kernel
theorem iX6_setCoresOfUnit_44 {f : Nat → Int32} (hh : h r = some (a, .inl (0, N, .inl f))) (hi : i = nI j) (hj : j < N) (hN : N < 2 ^ 31) (g : z_J Z mX6_setCoresOfUnit R k n Q 45 ls (.int (f j) :: st) h) : z_J Z mX6_setCoresOfUnit R k n Q 44 ls (.int i :: .ref a :: st) h := z_iald dX6_setCoresOfUnit_44 rfl hh hi hj hN g
def bX6_setCoresOfUnit_45 : zB := [(45, .istore_n 3, 46, nI 0), (46, .aload_n 0, 47, nI 0)]
theorem bX6_setCoresOfUnit_45_ok : z_ok cX6_setCoresOfUnit 45 bX6_setCoresOfUnit_45 47 = true := by decide +kernel
theorem iX6_setCoresOfUnit_45 (hr : z_run 4 bX6_setCoresOfUnit_45 ls st = some (ls', st')) (g : z_J Z mX6_setCoresOfUnit R k n Q 47 ls' st' h) : z_J Z mX6_setCoresOfUnit R k n Q 45 ls st h := z_jr bX6_setCoresOfUnit_45 bX6_setCoresOfUnit_45_ok hr g
theorem dX6_setCoresOfUnit_47 : decode cX6_setCoresOfUnit 47 = .ok (.getfield 35, 3) := by decide +kernel
theorem iX6_setCoresOfUnit_47 (hh : h r = some (a, .inr (7, fs))) (hv : fs[11]? = some v) (g : z_J Z mX6_setCoresOfUnit R k n Q 50 ls (v :: st) h) : z_J Z mX6_setCoresOfUnit R k n Q 47 ls (.ref a :: st) h := z_get dX6_setCoresOfUnit_47 rfl fl_X6_35 hh hv g
def bX6_setCoresOfUnit_50 : zB := [(50, .iload_n 1, 51, nI 0), (51, .iload_n 2, 52, nI 0)]
theorem bX6_setCoresOfUnit_50_ok : z_ok cX6_setCoresOfUnit 50 bX6_setCoresOfUnit_50 52 = true := by decide +kernel
theorem iX6_setCoresOfUnit_50 (hr : z_run 4 bX6_setCoresOfUnit_50 ls st = some (ls', st')) (g : z_J Z mX6_setCoresOfUnit R k n Q 52 ls' st' h) : z_J Z mX6_setCoresOfUnit R k n Q 50 ls st h := z_jr bX6_setCoresOfUnit_50 bX6_setCoresOfUnit_50_ok hr g
theorem dX6_setCoresOfUnit_52 : decode cX6_setCoresOfUnit 52 = .ok (.iastore, 1) := by decide +kernel
theorem iX6_setCoresOfUnit_52 {f : Nat → Int32} (hh : h r = some (a, .inl (0, N, .inl f))) (hi : i = nI j) (hj : j < N) (hN : N < 2 ^ 31) (g : z_J Z mX6_setCoresOfUnit R k n Q 53 ls st (z_u h r (a, .inl (0, N, .inl (upd f j x))))) : z_J Z mX6_setCoresOfUnit R k n Q 52 ls (.int x :: .int i :: .ref a :: st) h := z_iast dX6_setCoresOfUnit_52 rfl hh hi hj hN g
def bX6_setCoresOfUnit_53 : zB := [(53, .iload_n 3, 54, nI 0)]
theorem bX6_setCoresOfUnit_53_ok : z_ok cX6_setCoresOfUnit 53 bX6_setCoresOfUnit_53 54 = true := by decide +kernel
theorem iX6_setCoresOfUnit_53 (hr : z_run 4 bX6_setCoresOfUnit_53 ls st = some (ls', st')) (g : z_J Z mX6_setCoresOfUnit R k n Q 54 ls' st' h) : z_J Z mX6_setCoresOfUnit R k n Q 53 ls st h := z_jr bX6_setCoresOfUnit_53 bX6_setCoresOfUnit_53_ok hr g
theorem dX6_setCoresOfUnit_54 : decode cX6_setCoresOfUnit 54 = .ok (.ireturn, 1) := by decide +kernel
theorem iX6_setCoresOfUnit_54 (hk : k ≤ R.cells) (hs : n ≤ R.slots) (hq : Q (.inl (some (.int x))) h) : z_J Z mX6_setCoresOfUnit R k n Q 54 ls [.int x] h := z_iret (ty := .int) dX6_setCoresOfUnit_54 rfl rfl hk hs hq
/-! X6_machines -/
def bX6_machines_0 : zB := [(0, .aload_n 0, 1, nI 0), (1, .iconst 0, 2, nI 0)]
theorem bX6_machines_0_ok : z_ok cX6_machines 0 bX6_machines_0 2 = true := by decide +kernel
theorem iX6_machines_0 (hr : z_run 1 bX6_machines_0 ls st = some (ls', st')) (g : z_J Z mX6_machines R k n Q 2 ls' st' h) : z_J Z mX6_machines R k n Q 0 ls st h := z_jr bX6_machines_0 bX6_machines_0_ok hr g
theorem dX6_machines_2 : decode cX6_machines 2 = .ok (.putfield 68, 3) := by decide +kernel
theorem iX6_machines_2 (hh : h r = some (a, .inr (7, fs))) (hl : Nat.blt 0 fs.length = true) (g : z_J Z mX6_machines R k n Q 5 ls st (z_u h r (a, .inr (7, fs.set 0 (.int x))))) : z_J Z mX6_machines R k n Q 2 ls ((.int x) :: .ref a :: st) h := z_put dX6_machines_2 rfl fl_X6_68 fw_X6_0 rfl hh rfl rfl (by simpa [Nat.blt_eq] using hl) g
def bX6_machines_5 : zB := [(5, .aload_n 0, 6, nI 0)]
theorem bX6_machines_5_ok : z_ok cX6_machines 5 bX6_machines_5 6 = true := by decide +kernel
theorem iX6_machines_5 (hr : z_run 1 bX6_machines_5 ls st = some (ls', st')) (g : z_J Z mX6_machines R k n Q 6 ls' st' h) : z_J Z mX6_machines R k n Q 5 ls st h := z_jr bX6_machines_5 bX6_machines_5_ok hr g
theorem dX6_machines_6 : decode cX6_machines 6 = .ok (.getfield 76, 3) := by decide +kernel
theorem iX6_machines_6 (hh : h r = some (a, .inr (7, fs))) (hv : fs[7]? = some v) (g : z_J Z mX6_machines R k n Q 9 ls (v :: st) h) : z_J Z mX6_machines R k n Q 6 ls (.ref a :: st) h := z_get dX6_machines_6 rfl fl_X6_76 hh hv g
theorem dX6_machines_9 : decode cX6_machines 9 = .ok (.ireturn, 1) := by decide +kernel
theorem iX6_machines_9 (hk : k ≤ R.cells) (hs : n ≤ R.slots) (hq : Q (.inl (some (.int x))) h) : z_J Z mX6_machines R k n Q 9 ls [.int x] h := z_iret (ty := .int) dX6_machines_9 rfl rfl hk hs hq
/-! X6_pairOf -/
def bX6_pairOf_0 : zB := [(0, .iconst 5, 1, nI 5), (1, .iload_n 0, 2, nI 0), (2, .imul, 3, nI 0), (3, .iload_n 1, 4, nI 0), (4, .iadd, 5, nI 0)]
theorem bX6_pairOf_0_ok : z_ok cX6_pairOf 0 bX6_pairOf_0 5 = true := by decide +kernel
theorem iX6_pairOf_0 (hr : z_run 2 bX6_pairOf_0 ls st = some (ls', st')) (g : z_J Z mX6_pairOf R k n Q 5 ls' st' h) : z_J Z mX6_pairOf R k n Q 0 ls st h := z_jr bX6_pairOf_0 bX6_pairOf_0_ok hr g
theorem dX6_pairOf_5 : decode cX6_pairOf 5 = .ok (.ireturn, 1) := by decide +kernel
theorem iX6_pairOf_5 (hk : k ≤ R.cells) (hs : n ≤ R.slots) (hq : Q (.inl (some (.int x))) h) : z_J Z mX6_pairOf R k n Q 5 ls [.int x] h := z_iret (ty := .int) dX6_pairOf_5 rfl rfl hk hs hq
/-! X6_latest -/
def bX6_latest_0 : zB := [(0, .aload_n 0, 1, nI 0)]
theorem bX6_latest_0_ok : z_ok cX6_latest 0 bX6_latest_0 1 = true := by decide +kernel
theorem iX6_latest_0 (hr : z_run 2 bX6_latest_0 ls st = some (ls', st')) (g : z_J Z mX6_latest R k n Q 1 ls' st' h) : z_J Z mX6_latest R k n Q 0 ls st h := z_jr bX6_latest_0 bX6_latest_0_ok hr g
theorem dX6_latest_1 : decode cX6_latest 1 = .ok (.getfield 38, 3) := by decide +kernel
theorem iX6_latest_1 (hh : h r = some (a, .inr (7, fs))) (hv : fs[12]? = some v) (g : z_J Z mX6_latest R k n Q 4 ls (v :: st) h) : z_J Z mX6_latest R k n Q 1 ls (.ref a :: st) h := z_get dX6_latest_1 rfl fl_X6_38 hh hv g
def bX6_latest_4 : zB := [(4, .iload_n 1, 5, nI 0)]
theorem bX6_latest_4_ok : z_ok cX6_latest 4 bX6_latest_4 5 = true := by decide +kernel
theorem iX6_latest_4 (hr : z_run 2 bX6_latest_4 ls st = some (ls', st')) (g : z_J Z mX6_latest R k n Q 5 ls' st' h) : z_J Z mX6_latest R k n Q 4 ls st h := z_jr bX6_latest_4 bX6_latest_4_ok hr g
theorem dX6_latest_5 : decode cX6_latest 5 = .ok (.iaload, 1) := by decide +kernel
theorem iX6_latest_5 {f : Nat → Int32} (hh : h r = some (a, .inl (0, N, .inl f))) (hi : i = nI j) (hj : j < N) (hN : N < 2 ^ 31) (g : z_J Z mX6_latest R k n Q 6 ls (.int (f j) :: st) h) : z_J Z mX6_latest R k n Q 5 ls (.int i :: .ref a :: st) h := z_iald dX6_latest_5 rfl hh hi hj hN g
theorem dX6_latest_6 : decode cX6_latest 6 = .ok (.ifCond .ne 7, 3) := by decide +kernel
theorem iX6_latest_6 (kt : ¬ x = 0 → z_J Z mX6_latest R k n Q 13 ls st h) (kf : x = 0 → z_J Z mX6_latest R k n Q 9 ls st h) : z_J Z mX6_latest R k n Q 6 ls (.int x :: st) h := z_if_ne dX6_latest_6 (tgt := 13) (by decide) rfl kt kf
def bX6_latest_9 : zB := [(9, .iconst (-1), 10, -1), (10, .goto 21, 31, nI 0)]
theorem bX6_latest_9_ok : z_ok cX6_latest 9 bX6_latest_9 31 = true := by decide +kernel
theorem iX6_latest_9 (hr : z_run 2 bX6_latest_9 ls st = some (ls', st')) (g : z_J Z mX6_latest R k n Q 31 ls' st' h) : z_J Z mX6_latest R k n Q 9 ls st h := z_jr bX6_latest_9 bX6_latest_9_ok hr g
def bX6_latest_13 : zB := [(13, .aload_n 0, 14, nI 0)]
theorem bX6_latest_13_ok : z_ok cX6_latest 13 bX6_latest_13 14 = true := by decide +kernel
theorem iX6_latest_13 (hr : z_run 2 bX6_latest_13 ls st = some (ls', st')) (g : z_J Z mX6_latest R k n Q 14 ls' st' h) : z_J Z mX6_latest R k n Q 13 ls st h := z_jr bX6_latest_13 bX6_latest_13_ok hr g
theorem dX6_latest_14 : decode cX6_latest 14 = .ok (.getfield 44, 3) := by decide +kernel
theorem iX6_latest_14 (hh : h r = some (a, .inr (7, fs))) (hv : fs[14]? = some v) (g : z_J Z mX6_latest R k n Q 17 ls (v :: st) h) : z_J Z mX6_latest R k n Q 14 ls (.ref a :: st) h := z_get dX6_latest_14 rfl fl_X6_44 hh hv g
def bX6_latest_17 : zB := [(17, .bipush 20, 19, nI 20), (19, .iload_n 1, 20, nI 0), (20, .imul, 21, nI 0), (21, .aload_n 0, 22, nI 0)]
theorem bX6_latest_17_ok : z_ok cX6_latest 17 bX6_latest_17 22 = true := by decide +kernel
theorem iX6_latest_17 (hr : z_run 2 bX6_latest_17 ls st = some (ls', st')) (g : z_J Z mX6_latest R k n Q 22 ls' st' h) : z_J Z mX6_latest R k n Q 17 ls st h := z_jr bX6_latest_17 bX6_latest_17_ok hr g
theorem dX6_latest_22 : decode cX6_latest 22 = .ok (.getfield 38, 3) := by decide +kernel
theorem iX6_latest_22 (hh : h r = some (a, .inr (7, fs))) (hv : fs[12]? = some v) (g : z_J Z mX6_latest R k n Q 25 ls (v :: st) h) : z_J Z mX6_latest R k n Q 22 ls (.ref a :: st) h := z_get dX6_latest_22 rfl fl_X6_38 hh hv g
def bX6_latest_25 : zB := [(25, .iload_n 1, 26, nI 0)]
theorem bX6_latest_25_ok : z_ok cX6_latest 25 bX6_latest_25 26 = true := by decide +kernel
theorem iX6_latest_25 (hr : z_run 2 bX6_latest_25 ls st = some (ls', st')) (g : z_J Z mX6_latest R k n Q 26 ls' st' h) : z_J Z mX6_latest R k n Q 25 ls st h := z_jr bX6_latest_25 bX6_latest_25_ok hr g
theorem dX6_latest_26 : decode cX6_latest 26 = .ok (.iaload, 1) := by decide +kernel
theorem iX6_latest_26 {f : Nat → Int32} (hh : h r = some (a, .inl (0, N, .inl f))) (hi : i = nI j) (hj : j < N) (hN : N < 2 ^ 31) (g : z_J Z mX6_latest R k n Q 27 ls (.int (f j) :: st) h) : z_J Z mX6_latest R k n Q 26 ls (.int i :: .ref a :: st) h := z_iald dX6_latest_26 rfl hh hi hj hN g
def bX6_latest_27 : zB := [(27, .iadd, 28, nI 0), (28, .iconst 1, 29, nI 1), (29, .isub, 30, nI 0)]
theorem bX6_latest_27_ok : z_ok cX6_latest 27 bX6_latest_27 30 = true := by decide +kernel
theorem iX6_latest_27 (hr : z_run 2 bX6_latest_27 ls st = some (ls', st')) (g : z_J Z mX6_latest R k n Q 30 ls' st' h) : z_J Z mX6_latest R k n Q 27 ls st h := z_jr bX6_latest_27 bX6_latest_27_ok hr g
theorem dX6_latest_30 : decode cX6_latest 30 = .ok (.iaload, 1) := by decide +kernel
theorem iX6_latest_30 {f : Nat → Int32} (hh : h r = some (a, .inl (0, N, .inl f))) (hi : i = nI j) (hj : j < N) (hN : N < 2 ^ 31) (g : z_J Z mX6_latest R k n Q 31 ls (.int (f j) :: st) h) : z_J Z mX6_latest R k n Q 30 ls (.int i :: .ref a :: st) h := z_iald dX6_latest_30 rfl hh hi hj hN g
theorem dX6_latest_31 : decode cX6_latest 31 = .ok (.ireturn, 1) := by decide +kernel
theorem iX6_latest_31 (hk : k ≤ R.cells) (hs : n ≤ R.slots) (hq : Q (.inl (some (.int x))) h) : z_J Z mX6_latest R k n Q 31 ls [.int x] h := z_iret (ty := .int) dX6_latest_31 rfl rfl hk hs hq
/-! X6_tells -/
def bX6_tells_0 : zB := [(0, .aload_n 0, 1, nI 0)]
theorem bX6_tells_0_ok : z_ok cX6_tells 0 bX6_tells_0 1 = true := by decide +kernel
theorem iX6_tells_0 (hr : z_run 4 bX6_tells_0 ls st = some (ls', st')) (g : z_J Z mX6_tells R k n Q 1 ls' st' h) : z_J Z mX6_tells R k n Q 0 ls st h := z_jr bX6_tells_0 bX6_tells_0_ok hr g
theorem dX6_tells_1 : decode cX6_tells 1 = .ok (.getfield 44, 3) := by decide +kernel
theorem iX6_tells_1 (hh : h r = some (a, .inr (7, fs))) (hv : fs[14]? = some v) (g : z_J Z mX6_tells R k n Q 4 ls (v :: st) h) : z_J Z mX6_tells R k n Q 1 ls (.ref a :: st) h := z_get dX6_tells_1 rfl fl_X6_44 hh hv g
def bX6_tells_4 : zB := [(4, .bipush 20, 6, nI 20), (6, .iload_n 1, 7, nI 0), (7, .imul, 8, nI 0), (8, .aload_n 0, 9, nI 0)]
theorem bX6_tells_4_ok : z_ok cX6_tells 4 bX6_tells_4 9 = true := by decide +kernel
theorem iX6_tells_4 (hr : z_run 4 bX6_tells_4 ls st = some (ls', st')) (g : z_J Z mX6_tells R k n Q 9 ls' st' h) : z_J Z mX6_tells R k n Q 4 ls st h := z_jr bX6_tells_4 bX6_tells_4_ok hr g
theorem dX6_tells_9 : decode cX6_tells 9 = .ok (.getfield 38, 3) := by decide +kernel
theorem iX6_tells_9 (hh : h r = some (a, .inr (7, fs))) (hv : fs[12]? = some v) (g : z_J Z mX6_tells R k n Q 12 ls (v :: st) h) : z_J Z mX6_tells R k n Q 9 ls (.ref a :: st) h := z_get dX6_tells_9 rfl fl_X6_38 hh hv g
def bX6_tells_12 : zB := [(12, .iload_n 1, 13, nI 0)]
theorem bX6_tells_12_ok : z_ok cX6_tells 12 bX6_tells_12 13 = true := by decide +kernel
theorem iX6_tells_12 (hr : z_run 4 bX6_tells_12 ls st = some (ls', st')) (g : z_J Z mX6_tells R k n Q 13 ls' st' h) : z_J Z mX6_tells R k n Q 12 ls st h := z_jr bX6_tells_12 bX6_tells_12_ok hr g
theorem dX6_tells_13 : decode cX6_tells 13 = .ok (.iaload, 1) := by decide +kernel
theorem iX6_tells_13 {f : Nat → Int32} (hh : h r = some (a, .inl (0, N, .inl f))) (hi : i = nI j) (hj : j < N) (hN : N < 2 ^ 31) (g : z_J Z mX6_tells R k n Q 14 ls (.int (f j) :: st) h) : z_J Z mX6_tells R k n Q 13 ls (.int i :: .ref a :: st) h := z_iald dX6_tells_13 rfl hh hi hj hN g
def bX6_tells_14 : zB := [(14, .iadd, 15, nI 0), (15, .iload_n 2, 16, nI 0)]
theorem bX6_tells_14_ok : z_ok cX6_tells 14 bX6_tells_14 16 = true := by decide +kernel
theorem iX6_tells_14 (hr : z_run 4 bX6_tells_14 ls st = some (ls', st')) (g : z_J Z mX6_tells R k n Q 16 ls' st' h) : z_J Z mX6_tells R k n Q 14 ls st h := z_jr bX6_tells_14 bX6_tells_14_ok hr g
theorem dX6_tells_16 : decode cX6_tells 16 = .ok (.iastore, 1) := by decide +kernel
theorem iX6_tells_16 {f : Nat → Int32} (hh : h r = some (a, .inl (0, N, .inl f))) (hi : i = nI j) (hj : j < N) (hN : N < 2 ^ 31) (g : z_J Z mX6_tells R k n Q 17 ls st (z_u h r (a, .inl (0, N, .inl (upd f j x))))) : z_J Z mX6_tells R k n Q 16 ls (.int x :: .int i :: .ref a :: st) h := z_iast dX6_tells_16 rfl hh hi hj hN g
def bX6_tells_17 : zB := [(17, .aload_n 0, 18, nI 0)]
theorem bX6_tells_17_ok : z_ok cX6_tells 17 bX6_tells_17 18 = true := by decide +kernel
theorem iX6_tells_17 (hr : z_run 4 bX6_tells_17 ls st = some (ls', st')) (g : z_J Z mX6_tells R k n Q 18 ls' st' h) : z_J Z mX6_tells R k n Q 17 ls st h := z_jr bX6_tells_17 bX6_tells_17_ok hr g
theorem dX6_tells_18 : decode cX6_tells 18 = .ok (.getfield 47, 3) := by decide +kernel
theorem iX6_tells_18 (hh : h r = some (a, .inr (7, fs))) (hv : fs[15]? = some v) (g : z_J Z mX6_tells R k n Q 21 ls (v :: st) h) : z_J Z mX6_tells R k n Q 18 ls (.ref a :: st) h := z_get dX6_tells_18 rfl fl_X6_47 hh hv g
def bX6_tells_21 : zB := [(21, .bipush 20, 23, nI 20), (23, .iload_n 1, 24, nI 0), (24, .imul, 25, nI 0), (25, .aload_n 0, 26, nI 0)]
theorem bX6_tells_21_ok : z_ok cX6_tells 21 bX6_tells_21 26 = true := by decide +kernel
theorem iX6_tells_21 (hr : z_run 4 bX6_tells_21 ls st = some (ls', st')) (g : z_J Z mX6_tells R k n Q 26 ls' st' h) : z_J Z mX6_tells R k n Q 21 ls st h := z_jr bX6_tells_21 bX6_tells_21_ok hr g
theorem dX6_tells_26 : decode cX6_tells 26 = .ok (.getfield 38, 3) := by decide +kernel
theorem iX6_tells_26 (hh : h r = some (a, .inr (7, fs))) (hv : fs[12]? = some v) (g : z_J Z mX6_tells R k n Q 29 ls (v :: st) h) : z_J Z mX6_tells R k n Q 26 ls (.ref a :: st) h := z_get dX6_tells_26 rfl fl_X6_38 hh hv g
def bX6_tells_29 : zB := [(29, .iload_n 1, 30, nI 0)]
theorem bX6_tells_29_ok : z_ok cX6_tells 29 bX6_tells_29 30 = true := by decide +kernel
theorem iX6_tells_29 (hr : z_run 4 bX6_tells_29 ls st = some (ls', st')) (g : z_J Z mX6_tells R k n Q 30 ls' st' h) : z_J Z mX6_tells R k n Q 29 ls st h := z_jr bX6_tells_29 bX6_tells_29_ok hr g
theorem dX6_tells_30 : decode cX6_tells 30 = .ok (.iaload, 1) := by decide +kernel
theorem iX6_tells_30 {f : Nat → Int32} (hh : h r = some (a, .inl (0, N, .inl f))) (hi : i = nI j) (hj : j < N) (hN : N < 2 ^ 31) (g : z_J Z mX6_tells R k n Q 31 ls (.int (f j) :: st) h) : z_J Z mX6_tells R k n Q 30 ls (.int i :: .ref a :: st) h := z_iald dX6_tells_30 rfl hh hi hj hN g
def bX6_tells_31 : zB := [(31, .iadd, 32, nI 0), (32, .iload_n 3, 33, nI 0)]
theorem bX6_tells_31_ok : z_ok cX6_tells 31 bX6_tells_31 33 = true := by decide +kernel
theorem iX6_tells_31 (hr : z_run 4 bX6_tells_31 ls st = some (ls', st')) (g : z_J Z mX6_tells R k n Q 33 ls' st' h) : z_J Z mX6_tells R k n Q 31 ls st h := z_jr bX6_tells_31 bX6_tells_31_ok hr g
theorem dX6_tells_33 : decode cX6_tells 33 = .ok (.iastore, 1) := by decide +kernel
theorem iX6_tells_33 {f : Nat → Int32} (hh : h r = some (a, .inl (0, N, .inl f))) (hi : i = nI j) (hj : j < N) (hN : N < 2 ^ 31) (g : z_J Z mX6_tells R k n Q 34 ls st (z_u h r (a, .inl (0, N, .inl (upd f j x))))) : z_J Z mX6_tells R k n Q 33 ls (.int x :: .int i :: .ref a :: st) h := z_iast dX6_tells_33 rfl hh hi hj hN g
def bX6_tells_34 : zB := [(34, .aload_n 0, 35, nI 0)]
theorem bX6_tells_34_ok : z_ok cX6_tells 34 bX6_tells_34 35 = true := by decide +kernel
theorem iX6_tells_34 (hr : z_run 4 bX6_tells_34 ls st = some (ls', st')) (g : z_J Z mX6_tells R k n Q 35 ls' st' h) : z_J Z mX6_tells R k n Q 34 ls st h := z_jr bX6_tells_34 bX6_tells_34_ok hr g
theorem dX6_tells_35 : decode cX6_tells 35 = .ok (.getfield 38, 3) := by decide +kernel
theorem iX6_tells_35 (hh : h r = some (a, .inr (7, fs))) (hv : fs[12]? = some v) (g : z_J Z mX6_tells R k n Q 38 ls (v :: st) h) : z_J Z mX6_tells R k n Q 35 ls (.ref a :: st) h := z_get dX6_tells_35 rfl fl_X6_38 hh hv g
def bX6_tells_38 : zB := [(38, .iload_n 1, 39, nI 0), (39, .dup2, 40, nI 0)]
theorem bX6_tells_38_ok : z_ok cX6_tells 38 bX6_tells_38 40 = true := by decide +kernel
theorem iX6_tells_38 (hr : z_run 4 bX6_tells_38 ls st = some (ls', st')) (g : z_J Z mX6_tells R k n Q 40 ls' st' h) : z_J Z mX6_tells R k n Q 38 ls st h := z_jr bX6_tells_38 bX6_tells_38_ok hr g
theorem dX6_tells_40 : decode cX6_tells 40 = .ok (.iaload, 1) := by decide +kernel
theorem iX6_tells_40 {f : Nat → Int32} (hh : h r = some (a, .inl (0, N, .inl f))) (hi : i = nI j) (hj : j < N) (hN : N < 2 ^ 31) (g : z_J Z mX6_tells R k n Q 41 ls (.int (f j) :: st) h) : z_J Z mX6_tells R k n Q 40 ls (.int i :: .ref a :: st) h := z_iald dX6_tells_40 rfl hh hi hj hN g
def bX6_tells_41 : zB := [(41, .iconst 1, 42, nI 1), (42, .iadd, 43, nI 0)]
theorem bX6_tells_41_ok : z_ok cX6_tells 41 bX6_tells_41 43 = true := by decide +kernel
theorem iX6_tells_41 (hr : z_run 4 bX6_tells_41 ls st = some (ls', st')) (g : z_J Z mX6_tells R k n Q 43 ls' st' h) : z_J Z mX6_tells R k n Q 41 ls st h := z_jr bX6_tells_41 bX6_tells_41_ok hr g
theorem dX6_tells_43 : decode cX6_tells 43 = .ok (.iastore, 1) := by decide +kernel
theorem iX6_tells_43 {f : Nat → Int32} (hh : h r = some (a, .inl (0, N, .inl f))) (hi : i = nI j) (hj : j < N) (hN : N < 2 ^ 31) (g : z_J Z mX6_tells R k n Q 44 ls st (z_u h r (a, .inl (0, N, .inl (upd f j x))))) : z_J Z mX6_tells R k n Q 43 ls (.int x :: .int i :: .ref a :: st) h := z_iast dX6_tells_43 rfl hh hi hj hN g
theorem dX6_tells_44 : decode cX6_tells 44 = .ok (.return_, 1) := by decide +kernel
theorem iX6_tells_44 (hk : k ≤ R.cells) (hs : n ≤ R.slots) (hq : Q (.inl none) h) : z_J Z mX6_tells R k n Q 44 ls [] h := z_vret dX6_tells_44 rfl hk hs hq
/-! X6_install -/
def bX6_install_0 : zB := [(0, .aload_n 0, 1, nI 0), (1, .aload_n 0, 2, nI 0), (2, .iload_n 1, 3, nI 0)]
theorem bX6_install_0_ok : z_ok cX6_install 0 bX6_install_0 3 = true := by decide +kernel
theorem iX6_install_0 (hr : z_run 6 bX6_install_0 ls st = some (ls', st')) (g : z_J Z mX6_install R k n Q 3 ls' st' h) : z_J Z mX6_install R k n Q 0 ls st h := z_jr bX6_install_0 bX6_install_0_ok hr g
theorem dX6_install_3 : decode cX6_install 3 = .ok (.invokevirtual 86, 3) := by decide +kernel
theorem iX6_install_3 (ha : z_args 1 st [] = some (As, .ref b :: rest)) (hc : z_chk rest (.ref b :: As) 2 = true) (hh : h r = some (b, .inr (7, fs))) (hR : z_rm R R' 2 k n) (gc : z_J Z mX6_isMachine R' 0 0 Q' 0 (.ref b :: As) [] h) (kr : ∀ (v : Option Value) (h' : zH), Q' (.inl v) h' → z_J Z mX6_install R (k + R'.cells) (n + R'.slots) Q 6 ls (v.toList ++ rest) h') (kx : ∀ (E : String) (h' : zH), Q' (.inr E) h' → z_JX Z mX6_install R (k + R'.cells) (n + R'.slots) Q 3 ls E h') : z_J Z mX6_install R k n Q 3 ls st h := z_callV (M' := mX6_isMachine) dX6_install_3 rfl cs_X6_86 rfl gw825 gwp18 ha hh (ci := 7) rfl hR (z_chk1 hc) (z_chk2 hc) (z_chk3 hc) gc kr kx
theorem dX6_install_6 : decode cX6_install 6 = .ok (.ifCond .eq 10, 3) := by decide +kernel
theorem iX6_install_6 (kt : x = 0 → z_J Z mX6_install R k n Q 16 ls st h) (kf : ¬ x = 0 → z_J Z mX6_install R k n Q 9 ls st h) : z_J Z mX6_install R k n Q 6 ls (.int x :: st) h := z_if_eq dX6_install_6 (tgt := 16) (by decide) rfl kt kf
def bX6_install_9 : zB := [(9, .iload_n 2, 10, nI 0)]
theorem bX6_install_9_ok : z_ok cX6_install 9 bX6_install_9 10 = true := by decide +kernel
theorem iX6_install_9 (hr : z_run 6 bX6_install_9 ls st = some (ls', st')) (g : z_J Z mX6_install R k n Q 10 ls' st' h) : z_J Z mX6_install R k n Q 9 ls st h := z_jr bX6_install_9 bX6_install_9_ok hr g
theorem dX6_install_10 : decode cX6_install 10 = .ok (.invokestatic 93, 3) := by decide +kernel
theorem iX6_install_10 (ha : z_args 1 st [] = some (As, rest)) (hc : z_chk rest As 1 = true) (hR : z_rm R R' 1 k n) (gc : z_J Z mX6_isProduct R' 0 0 Q' 0 As [] h) (kr : ∀ (v : Option Value) (h' : zH), Q' (.inl v) h' → z_J Z mX6_install R (k + R'.cells) (n + R'.slots) Q 13 ls (v.toList ++ rest) h') (kx : ∀ (E : String) (h' : zH), Q' (.inr E) h' → z_JX Z mX6_install R (k + R'.cells) (n + R'.slots) Q 10 ls E h') : z_J Z mX6_install R k n Q 10 ls st h := z_callS (M' := mX6_isProduct) dX6_install_10 rfl cs_X6_93 gw844 ha hR (z_chk1 hc) (z_chk2 hc) (z_chk3 hc) gc kr kx
theorem dX6_install_13 : decode cX6_install 13 = .ok (.ifCond .ne 7, 3) := by decide +kernel
theorem iX6_install_13 (kt : ¬ x = 0 → z_J Z mX6_install R k n Q 20 ls st h) (kf : x = 0 → z_J Z mX6_install R k n Q 16 ls st h) : z_J Z mX6_install R k n Q 13 ls (.int x :: st) h := z_if_ne dX6_install_13 (tgt := 20) (by decide) rfl kt kf
def bX6_install_16 : zB := [(16, .iconst 1, 17, nI 1), (17, .goto 26, 43, nI 0)]
theorem bX6_install_16_ok : z_ok cX6_install 16 bX6_install_16 43 = true := by decide +kernel
theorem iX6_install_16 (hr : z_run 6 bX6_install_16 ls st = some (ls', st')) (g : z_J Z mX6_install R k n Q 43 ls' st' h) : z_J Z mX6_install R k n Q 16 ls st h := z_jr bX6_install_16 bX6_install_16_ok hr g
def bX6_install_20 : zB := [(20, .iload_n 3, 21, nI 0), (21, .iconst 1, 22, nI 1), (22, .bipush 9, 24, nI 9)]
theorem bX6_install_20_ok : z_ok cX6_install 20 bX6_install_20 24 = true := by decide +kernel
theorem iX6_install_20 (hr : z_run 6 bX6_install_20 ls st = some (ls', st')) (g : z_J Z mX6_install R k n Q 24 ls' st' h) : z_J Z mX6_install R k n Q 20 ls st h := z_jr bX6_install_20 bX6_install_20_ok hr g
theorem dX6_install_24 : decode cX6_install 24 = .ok (.invokestatic 72, 3) := by decide +kernel
theorem iX6_install_24 (ha : z_args 3 st [] = some (As, rest)) (hc : z_chk rest As 3 = true) (hR : z_rm R R' 3 k n) (gc : z_J Z mX6_in R' 0 0 Q' 0 As [] h) (kr : ∀ (v : Option Value) (h' : zH), Q' (.inl v) h' → z_J Z mX6_install R (k + R'.cells) (n + R'.slots) Q 27 ls (v.toList ++ rest) h') (kx : ∀ (E : String) (h' : zH), Q' (.inr E) h' → z_JX Z mX6_install R (k + R'.cells) (n + R'.slots) Q 24 ls E h') : z_J Z mX6_install R k n Q 24 ls st h := z_callS (M' := mX6_in) dX6_install_24 rfl cs_X6_72 gw801 ha hR (z_chk1 hc) (z_chk2 hc) (z_chk3 hc) gc kr kx
theorem dX6_install_27 : decode cX6_install 27 = .ok (.ifCond .eq 15, 3) := by decide +kernel
theorem iX6_install_27 (kt : x = 0 → z_J Z mX6_install R k n Q 42 ls st h) (kf : ¬ x = 0 → z_J Z mX6_install R k n Q 30 ls st h) : z_J Z mX6_install R k n Q 27 ls (.int x :: st) h := z_if_eq dX6_install_27 (tgt := 42) (by decide) rfl kt kf
def bX6_install_30 : zB := [(30, .iload 4, 32, nI 0)]
theorem bX6_install_30_ok : z_ok cX6_install 30 bX6_install_30 32 = true := by decide +kernel
theorem iX6_install_30 (hr : z_run 6 bX6_install_30 ls st = some (ls', st')) (g : z_J Z mX6_install R k n Q 32 ls' st' h) : z_J Z mX6_install R k n Q 30 ls st h := z_jr bX6_install_30 bX6_install_30_ok hr g
theorem dX6_install_32 : decode cX6_install 32 = .ok (.invokestatic 96, 3) := by decide +kernel
theorem iX6_install_32 (ha : z_args 1 st [] = some (As, rest)) (hc : z_chk rest As 1 = true) (hR : z_rm R R' 1 k n) (gc : z_J Z mX6_isDay R' 0 0 Q' 0 As [] h) (kr : ∀ (v : Option Value) (h' : zH), Q' (.inl v) h' → z_J Z mX6_install R (k + R'.cells) (n + R'.slots) Q 35 ls (v.toList ++ rest) h') (kx : ∀ (E : String) (h' : zH), Q' (.inr E) h' → z_JX Z mX6_install R (k + R'.cells) (n + R'.slots) Q 32 ls E h') : z_J Z mX6_install R k n Q 32 ls st h := z_callS (M' := mX6_isDay) dX6_install_32 rfl cs_X6_96 gw855 ha hR (z_chk1 hc) (z_chk2 hc) (z_chk3 hc) gc kr kx
theorem dX6_install_35 : decode cX6_install 35 = .ok (.ifCond .eq 7, 3) := by decide +kernel
theorem iX6_install_35 (kt : x = 0 → z_J Z mX6_install R k n Q 42 ls st h) (kf : ¬ x = 0 → z_J Z mX6_install R k n Q 38 ls st h) : z_J Z mX6_install R k n Q 35 ls (.int x :: st) h := z_if_eq dX6_install_35 (tgt := 42) (by decide) rfl kt kf
def bX6_install_38 : zB := [(38, .iconst 0, 39, nI 0), (39, .goto 4, 43, nI 0)]
theorem bX6_install_38_ok : z_ok cX6_install 38 bX6_install_38 43 = true := by decide +kernel
theorem iX6_install_38 (hr : z_run 6 bX6_install_38 ls st = some (ls', st')) (g : z_J Z mX6_install R k n Q 43 ls' st' h) : z_J Z mX6_install R k n Q 38 ls st h := z_jr bX6_install_38 bX6_install_38_ok hr g
def bX6_install_42 : zB := [(42, .iconst 2, 43, nI 2)]
theorem bX6_install_42_ok : z_ok cX6_install 42 bX6_install_42 43 = true := by decide +kernel
theorem iX6_install_42 (hr : z_run 6 bX6_install_42 ls st = some (ls', st')) (g : z_J Z mX6_install R k n Q 43 ls' st' h) : z_J Z mX6_install R k n Q 42 ls st h := z_jr bX6_install_42 bX6_install_42_ok hr g
theorem dX6_install_43 : decode cX6_install 43 = .ok (.putfield 68, 3) := by decide +kernel
theorem iX6_install_43 (hh : h r = some (a, .inr (7, fs))) (hl : Nat.blt 0 fs.length = true) (g : z_J Z mX6_install R k n Q 46 ls st (z_u h r (a, .inr (7, fs.set 0 (.int x))))) : z_J Z mX6_install R k n Q 43 ls ((.int x) :: .ref a :: st) h := z_put dX6_install_43 rfl fl_X6_68 fw_X6_0 rfl hh rfl rfl (by simpa [Nat.blt_eq] using hl) g
def bX6_install_46 : zB := [(46, .aload_n 0, 47, nI 0)]
theorem bX6_install_46_ok : z_ok cX6_install 46 bX6_install_46 47 = true := by decide +kernel
theorem iX6_install_46 (hr : z_run 6 bX6_install_46 ls st = some (ls', st')) (g : z_J Z mX6_install R k n Q 47 ls' st' h) : z_J Z mX6_install R k n Q 46 ls st h := z_jr bX6_install_46 bX6_install_46_ok hr g
theorem dX6_install_47 : decode cX6_install 47 = .ok (.getfield 68, 3) := by decide +kernel
theorem iX6_install_47 (hh : h r = some (a, .inr (7, fs))) (hv : fs[0]? = some v) (g : z_J Z mX6_install R k n Q 50 ls (v :: st) h) : z_J Z mX6_install R k n Q 47 ls (.ref a :: st) h := z_get dX6_install_47 rfl fl_X6_68 hh hv g
theorem dX6_install_50 : decode cX6_install 50 = .ok (.ifCond .ne 42, 3) := by decide +kernel
theorem iX6_install_50 (kt : ¬ x = 0 → z_J Z mX6_install R k n Q 92 ls st h) (kf : x = 0 → z_J Z mX6_install R k n Q 53 ls st h) : z_J Z mX6_install R k n Q 50 ls (.int x :: st) h := z_if_ne dX6_install_50 (tgt := 92) (by decide) rfl kt kf
def bX6_install_53 : zB := [(53, .iload_n 1, 54, nI 0), (54, .iload_n 2, 55, nI 0)]
theorem bX6_install_53_ok : z_ok cX6_install 53 bX6_install_53 55 = true := by decide +kernel
theorem iX6_install_53 (hr : z_run 6 bX6_install_53 ls st = some (ls', st')) (g : z_J Z mX6_install R k n Q 55 ls' st' h) : z_J Z mX6_install R k n Q 53 ls st h := z_jr bX6_install_53 bX6_install_53_ok hr g
theorem dX6_install_55 : decode cX6_install 55 = .ok (.invokestatic 99, 3) := by decide +kernel
theorem iX6_install_55 (ha : z_args 2 st [] = some (As, rest)) (hc : z_chk rest As 2 = true) (hR : z_rm R R' 2 k n) (gc : z_J Z mX6_pairOf R' 0 0 Q' 0 As [] h) (kr : ∀ (v : Option Value) (h' : zH), Q' (.inl v) h' → z_J Z mX6_install R (k + R'.cells) (n + R'.slots) Q 58 ls (v.toList ++ rest) h') (kx : ∀ (E : String) (h' : zH), Q' (.inr E) h' → z_JX Z mX6_install R (k + R'.cells) (n + R'.slots) Q 55 ls E h') : z_J Z mX6_install R k n Q 55 ls st h := z_callS (M' := mX6_pairOf) dX6_install_55 rfl cs_X6_99 gw858 ha hR (z_chk1 hc) (z_chk2 hc) (z_chk3 hc) gc kr kx
def bX6_install_58 : zB := [(58, .istore 5, 60, nI 0), (60, .aload_n 0, 61, nI 0), (61, .aload_n 0, 62, nI 0), (62, .iload 5, 64, nI 0)]
theorem bX6_install_58_ok : z_ok cX6_install 58 bX6_install_58 64 = true := by decide +kernel
theorem iX6_install_58 (hr : z_run 6 bX6_install_58 ls st = some (ls', st')) (g : z_J Z mX6_install R k n Q 64 ls' st' h) : z_J Z mX6_install R k n Q 58 ls st h := z_jr bX6_install_58 bX6_install_58_ok hr g
theorem dX6_install_64 : decode cX6_install 64 = .ok (.invokevirtual 103, 3) := by decide +kernel
theorem iX6_install_64 (ha : z_args 1 st [] = some (As, .ref b :: rest)) (hc : z_chk rest (.ref b :: As) 2 = true) (hh : h r = some (b, .inr (7, fs))) (hR : z_rm R R' 2 k n) (gc : z_J Z mX6_latest R' 0 0 Q' 0 (.ref b :: As) [] h) (kr : ∀ (v : Option Value) (h' : zH), Q' (.inl v) h' → z_J Z mX6_install R (k + R'.cells) (n + R'.slots) Q 67 ls (v.toList ++ rest) h') (kx : ∀ (E : String) (h' : zH), Q' (.inr E) h' → z_JX Z mX6_install R (k + R'.cells) (n + R'.slots) Q 64 ls E h') : z_J Z mX6_install R k n Q 64 ls st h := z_callV (M' := mX6_latest) dX6_install_64 rfl cs_X6_103 rfl gw862 gwp20 ha hh (ci := 7) rfl hR (z_chk1 hc) (z_chk2 hc) (z_chk3 hc) gc kr kx
def bX6_install_67 : zB := [(67, .iload 4, 69, nI 0)]
theorem bX6_install_67_ok : z_ok cX6_install 67 bX6_install_67 69 = true := by decide +kernel
theorem iX6_install_67 (hr : z_run 6 bX6_install_67 ls st = some (ls', st')) (g : z_J Z mX6_install R k n Q 69 ls' st' h) : z_J Z mX6_install R k n Q 67 ls st h := z_jr bX6_install_67 bX6_install_67_ok hr g
theorem dX6_install_69 : decode cX6_install 69 = .ok (.if_icmp .ge 15, 3) := by decide +kernel
theorem iX6_install_69 (kt : y ≤ x → z_J Z mX6_install R k n Q 84 ls st h) (kf : ¬ y ≤ x → z_J Z mX6_install R k n Q 72 ls st h) : z_J Z mX6_install R k n Q 69 ls (.int y :: .int x :: st) h := z_ic_ge dX6_install_69 (tgt := 84) (by decide) rfl kt kf
def bX6_install_72 : zB := [(72, .aload_n 0, 73, nI 0)]
theorem bX6_install_72_ok : z_ok cX6_install 72 bX6_install_72 73 = true := by decide +kernel
theorem iX6_install_72 (hr : z_run 6 bX6_install_72 ls st = some (ls', st')) (g : z_J Z mX6_install R k n Q 73 ls' st' h) : z_J Z mX6_install R k n Q 72 ls st h := z_jr bX6_install_72 bX6_install_72_ok hr g
theorem dX6_install_73 : decode cX6_install 73 = .ok (.getfield 41, 3) := by decide +kernel
theorem iX6_install_73 (hh : h r = some (a, .inr (7, fs))) (hv : fs[13]? = some v) (g : z_J Z mX6_install R k n Q 76 ls (v :: st) h) : z_J Z mX6_install R k n Q 73 ls (.ref a :: st) h := z_get dX6_install_73 rfl fl_X6_41 hh hv g
def bX6_install_76 : zB := [(76, .iload 5, 78, nI 0)]
theorem bX6_install_76_ok : z_ok cX6_install 76 bX6_install_76 78 = true := by decide +kernel
theorem iX6_install_76 (hr : z_run 6 bX6_install_76 ls st = some (ls', st')) (g : z_J Z mX6_install R k n Q 78 ls' st' h) : z_J Z mX6_install R k n Q 76 ls st h := z_jr bX6_install_76 bX6_install_76_ok hr g
theorem dX6_install_78 : decode cX6_install 78 = .ok (.iaload, 1) := by decide +kernel
theorem iX6_install_78 {f : Nat → Int32} (hh : h r = some (a, .inl (0, N, .inl f))) (hi : i = nI j) (hj : j < N) (hN : N < 2 ^ 31) (g : z_J Z mX6_install R k n Q 79 ls (.int (f j) :: st) h) : z_J Z mX6_install R k n Q 78 ls (.int i :: .ref a :: st) h := z_iald dX6_install_78 rfl hh hi hj hN g
def bX6_install_79 : zB := [(79, .bipush 10, 81, nI 10)]
theorem bX6_install_79_ok : z_ok cX6_install 79 bX6_install_79 81 = true := by decide +kernel
theorem iX6_install_79 (hr : z_run 6 bX6_install_79 ls st = some (ls', st')) (g : z_J Z mX6_install R k n Q 81 ls' st' h) : z_J Z mX6_install R k n Q 79 ls st h := z_jr bX6_install_79 bX6_install_79_ok hr g
theorem dX6_install_81 : decode cX6_install 81 = .ok (.if_icmp .ne 7, 3) := by decide +kernel
theorem iX6_install_81 (kt : ¬ x = y → z_J Z mX6_install R k n Q 88 ls st h) (kf : x = y → z_J Z mX6_install R k n Q 84 ls st h) : z_J Z mX6_install R k n Q 81 ls (.int y :: .int x :: st) h := z_ic_ne dX6_install_81 (tgt := 88) (by decide) rfl kt kf
def bX6_install_84 : zB := [(84, .iconst 3, 85, nI 3), (85, .goto 4, 89, nI 0)]
theorem bX6_install_84_ok : z_ok cX6_install 84 bX6_install_84 89 = true := by decide +kernel
theorem iX6_install_84 (hr : z_run 6 bX6_install_84 ls st = some (ls', st')) (g : z_J Z mX6_install R k n Q 89 ls' st' h) : z_J Z mX6_install R k n Q 84 ls st h := z_jr bX6_install_84 bX6_install_84_ok hr g
def bX6_install_88 : zB := [(88, .iconst 0, 89, nI 0)]
theorem bX6_install_88_ok : z_ok cX6_install 88 bX6_install_88 89 = true := by decide +kernel
theorem iX6_install_88 (hr : z_run 6 bX6_install_88 ls st = some (ls', st')) (g : z_J Z mX6_install R k n Q 89 ls' st' h) : z_J Z mX6_install R k n Q 88 ls st h := z_jr bX6_install_88 bX6_install_88_ok hr g
theorem dX6_install_89 : decode cX6_install 89 = .ok (.putfield 68, 3) := by decide +kernel
theorem iX6_install_89 (hh : h r = some (a, .inr (7, fs))) (hl : Nat.blt 0 fs.length = true) (g : z_J Z mX6_install R k n Q 92 ls st (z_u h r (a, .inr (7, fs.set 0 (.int x))))) : z_J Z mX6_install R k n Q 89 ls ((.int x) :: .ref a :: st) h := z_put dX6_install_89 rfl fl_X6_68 fw_X6_0 rfl hh rfl rfl (by simpa [Nat.blt_eq] using hl) g
def bX6_install_92 : zB := [(92, .aload_n 0, 93, nI 0)]
theorem bX6_install_92_ok : z_ok cX6_install 92 bX6_install_92 93 = true := by decide +kernel
theorem iX6_install_92 (hr : z_run 6 bX6_install_92 ls st = some (ls', st')) (g : z_J Z mX6_install R k n Q 93 ls' st' h) : z_J Z mX6_install R k n Q 92 ls st h := z_jr bX6_install_92 bX6_install_92_ok hr g
theorem dX6_install_93 : decode cX6_install 93 = .ok (.getfield 68, 3) := by decide +kernel
theorem iX6_install_93 (hh : h r = some (a, .inr (7, fs))) (hv : fs[0]? = some v) (g : z_J Z mX6_install R k n Q 96 ls (v :: st) h) : z_J Z mX6_install R k n Q 93 ls (.ref a :: st) h := z_get dX6_install_93 rfl fl_X6_68 hh hv g
theorem dX6_install_96 : decode cX6_install 96 = .ok (.ifCond .le 5, 3) := by decide +kernel
theorem iX6_install_96 (kt : x ≤ 0 → z_J Z mX6_install R k n Q 101 ls st h) (kf : ¬ x ≤ 0 → z_J Z mX6_install R k n Q 99 ls st h) : z_J Z mX6_install R k n Q 96 ls (.int x :: st) h := z_if_le dX6_install_96 (tgt := 101) (by decide) rfl kt kf
def bX6_install_99 : zB := [(99, .iconst 0, 100, nI 0)]
theorem bX6_install_99_ok : z_ok cX6_install 99 bX6_install_99 100 = true := by decide +kernel
theorem iX6_install_99 (hr : z_run 6 bX6_install_99 ls st = some (ls', st')) (g : z_J Z mX6_install R k n Q 100 ls' st' h) : z_J Z mX6_install R k n Q 99 ls st h := z_jr bX6_install_99 bX6_install_99_ok hr g
theorem dX6_install_100 : decode cX6_install 100 = .ok (.ireturn, 1) := by decide +kernel
theorem iX6_install_100 (hk : k ≤ R.cells) (hs : n ≤ R.slots) (hq : Q (.inl (some (.int x))) h) : z_J Z mX6_install R k n Q 100 ls [.int x] h := z_iret (ty := .int) dX6_install_100 rfl rfl hk hs hq
def bX6_install_101 : zB := [(101, .aload_n 0, 102, nI 0), (102, .iload_n 1, 103, nI 0), (103, .iload_n 2, 104, nI 0)]
theorem bX6_install_101_ok : z_ok cX6_install 101 bX6_install_101 104 = true := by decide +kernel
theorem iX6_install_101 (hr : z_run 6 bX6_install_101 ls st = some (ls', st')) (g : z_J Z mX6_install R k n Q 104 ls' st' h) : z_J Z mX6_install R k n Q 101 ls st h := z_jr bX6_install_101 bX6_install_101_ok hr g
theorem dX6_install_104 : decode cX6_install 104 = .ok (.invokestatic 99, 3) := by decide +kernel
theorem iX6_install_104 (ha : z_args 2 st [] = some (As, rest)) (hc : z_chk rest As 2 = true) (hR : z_rm R R' 2 k n) (gc : z_J Z mX6_pairOf R' 0 0 Q' 0 As [] h) (kr : ∀ (v : Option Value) (h' : zH), Q' (.inl v) h' → z_J Z mX6_install R (k + R'.cells) (n + R'.slots) Q 107 ls (v.toList ++ rest) h') (kx : ∀ (E : String) (h' : zH), Q' (.inr E) h' → z_JX Z mX6_install R (k + R'.cells) (n + R'.slots) Q 104 ls E h') : z_J Z mX6_install R k n Q 104 ls st h := z_callS (M' := mX6_pairOf) dX6_install_104 rfl cs_X6_99 gw858 ha hR (z_chk1 hc) (z_chk2 hc) (z_chk3 hc) gc kr kx
def bX6_install_107 : zB := [(107, .iload 4, 109, nI 0), (109, .iload_n 3, 110, nI 0)]
theorem bX6_install_107_ok : z_ok cX6_install 107 bX6_install_107 110 = true := by decide +kernel
theorem iX6_install_107 (hr : z_run 6 bX6_install_107 ls st = some (ls', st')) (g : z_J Z mX6_install R k n Q 110 ls' st' h) : z_J Z mX6_install R k n Q 107 ls st h := z_jr bX6_install_107 bX6_install_107_ok hr g
theorem dX6_install_110 : decode cX6_install 110 = .ok (.invokevirtual 106, 3) := by decide +kernel
theorem iX6_install_110 (ha : z_args 3 st [] = some (As, .ref b :: rest)) (hc : z_chk rest (.ref b :: As) 4 = true) (hh : h r = some (b, .inr (7, fs))) (hR : z_rm R R' 4 k n) (gc : z_J Z mX6_tells R' 0 0 Q' 0 (.ref b :: As) [] h) (kr : ∀ (v : Option Value) (h' : zH), Q' (.inl v) h' → z_J Z mX6_install R (k + R'.cells) (n + R'.slots) Q 113 ls (v.toList ++ rest) h') (kx : ∀ (E : String) (h' : zH), Q' (.inr E) h' → z_JX Z mX6_install R (k + R'.cells) (n + R'.slots) Q 110 ls E h') : z_J Z mX6_install R k n Q 110 ls st h := z_callV (M' := mX6_tells) dX6_install_110 rfl cs_X6_106 rfl gw866 gwp21 ha hh (ci := 7) rfl hR (z_chk1 hc) (z_chk2 hc) (z_chk3 hc) gc kr kx
def bX6_install_113 : zB := [(113, .aload_n 0, 114, nI 0)]
theorem bX6_install_113_ok : z_ok cX6_install 113 bX6_install_113 114 = true := by decide +kernel
theorem iX6_install_113 (hr : z_run 6 bX6_install_113 ls st = some (ls', st')) (g : z_J Z mX6_install R k n Q 114 ls' st' h) : z_J Z mX6_install R k n Q 113 ls st h := z_jr bX6_install_113 bX6_install_113_ok hr g
theorem dX6_install_114 : decode cX6_install 114 = .ok (.getfield 41, 3) := by decide +kernel
theorem iX6_install_114 (hh : h r = some (a, .inr (7, fs))) (hv : fs[13]? = some v) (g : z_J Z mX6_install R k n Q 117 ls (v :: st) h) : z_J Z mX6_install R k n Q 114 ls (.ref a :: st) h := z_get dX6_install_114 rfl fl_X6_41 hh hv g
def bX6_install_117 : zB := [(117, .iload_n 1, 118, nI 0), (118, .iload_n 2, 119, nI 0)]
theorem bX6_install_117_ok : z_ok cX6_install 117 bX6_install_117 119 = true := by decide +kernel
theorem iX6_install_117 (hr : z_run 6 bX6_install_117 ls st = some (ls', st')) (g : z_J Z mX6_install R k n Q 119 ls' st' h) : z_J Z mX6_install R k n Q 117 ls st h := z_jr bX6_install_117 bX6_install_117_ok hr g
theorem dX6_install_119 : decode cX6_install 119 = .ok (.invokestatic 99, 3) := by decide +kernel
theorem iX6_install_119 (ha : z_args 2 st [] = some (As, rest)) (hc : z_chk rest As 2 = true) (hR : z_rm R R' 2 k n) (gc : z_J Z mX6_pairOf R' 0 0 Q' 0 As [] h) (kr : ∀ (v : Option Value) (h' : zH), Q' (.inl v) h' → z_J Z mX6_install R (k + R'.cells) (n + R'.slots) Q 122 ls (v.toList ++ rest) h') (kx : ∀ (E : String) (h' : zH), Q' (.inr E) h' → z_JX Z mX6_install R (k + R'.cells) (n + R'.slots) Q 119 ls E h') : z_J Z mX6_install R k n Q 119 ls st h := z_callS (M' := mX6_pairOf) dX6_install_119 rfl cs_X6_99 gw858 ha hR (z_chk1 hc) (z_chk2 hc) (z_chk3 hc) gc kr kx
def bX6_install_122 : zB := [(122, .dup2, 123, nI 0)]
theorem bX6_install_122_ok : z_ok cX6_install 122 bX6_install_122 123 = true := by decide +kernel
theorem iX6_install_122 (hr : z_run 6 bX6_install_122 ls st = some (ls', st')) (g : z_J Z mX6_install R k n Q 123 ls' st' h) : z_J Z mX6_install R k n Q 122 ls st h := z_jr bX6_install_122 bX6_install_122_ok hr g
theorem dX6_install_123 : decode cX6_install 123 = .ok (.iaload, 1) := by decide +kernel
theorem iX6_install_123 {f : Nat → Int32} (hh : h r = some (a, .inl (0, N, .inl f))) (hi : i = nI j) (hj : j < N) (hN : N < 2 ^ 31) (g : z_J Z mX6_install R k n Q 124 ls (.int (f j) :: st) h) : z_J Z mX6_install R k n Q 123 ls (.int i :: .ref a :: st) h := z_iald dX6_install_123 rfl hh hi hj hN g
def bX6_install_124 : zB := [(124, .iconst 1, 125, nI 1), (125, .iadd, 126, nI 0)]
theorem bX6_install_124_ok : z_ok cX6_install 124 bX6_install_124 126 = true := by decide +kernel
theorem iX6_install_124 (hr : z_run 6 bX6_install_124 ls st = some (ls', st')) (g : z_J Z mX6_install R k n Q 126 ls' st' h) : z_J Z mX6_install R k n Q 124 ls st h := z_jr bX6_install_124 bX6_install_124_ok hr g
theorem dX6_install_126 : decode cX6_install 126 = .ok (.iastore, 1) := by decide +kernel
theorem iX6_install_126 {f : Nat → Int32} (hh : h r = some (a, .inl (0, N, .inl f))) (hi : i = nI j) (hj : j < N) (hN : N < 2 ^ 31) (g : z_J Z mX6_install R k n Q 127 ls st (z_u h r (a, .inl (0, N, .inl (upd f j x))))) : z_J Z mX6_install R k n Q 126 ls (.int x :: .int i :: .ref a :: st) h := z_iast dX6_install_126 rfl hh hi hj hN g
def bX6_install_127 : zB := [(127, .aload_n 0, 128, nI 0)]
theorem bX6_install_127_ok : z_ok cX6_install 127 bX6_install_127 128 = true := by decide +kernel
theorem iX6_install_127 (hr : z_run 6 bX6_install_127 ls st = some (ls', st')) (g : z_J Z mX6_install R k n Q 128 ls' st' h) : z_J Z mX6_install R k n Q 127 ls st h := z_jr bX6_install_127 bX6_install_127_ok hr g
theorem dX6_install_128 : decode cX6_install 128 = .ok (.getfield 41, 3) := by decide +kernel
theorem iX6_install_128 (hh : h r = some (a, .inr (7, fs))) (hv : fs[13]? = some v) (g : z_J Z mX6_install R k n Q 131 ls (v :: st) h) : z_J Z mX6_install R k n Q 128 ls (.ref a :: st) h := z_get dX6_install_128 rfl fl_X6_41 hh hv g
def bX6_install_131 : zB := [(131, .iload_n 1, 132, nI 0), (132, .iload_n 2, 133, nI 0)]
theorem bX6_install_131_ok : z_ok cX6_install 131 bX6_install_131 133 = true := by decide +kernel
theorem iX6_install_131 (hr : z_run 6 bX6_install_131 ls st = some (ls', st')) (g : z_J Z mX6_install R k n Q 133 ls' st' h) : z_J Z mX6_install R k n Q 131 ls st h := z_jr bX6_install_131 bX6_install_131_ok hr g
theorem dX6_install_133 : decode cX6_install 133 = .ok (.invokestatic 99, 3) := by decide +kernel
theorem iX6_install_133 (ha : z_args 2 st [] = some (As, rest)) (hc : z_chk rest As 2 = true) (hR : z_rm R R' 2 k n) (gc : z_J Z mX6_pairOf R' 0 0 Q' 0 As [] h) (kr : ∀ (v : Option Value) (h' : zH), Q' (.inl v) h' → z_J Z mX6_install R (k + R'.cells) (n + R'.slots) Q 136 ls (v.toList ++ rest) h') (kx : ∀ (E : String) (h' : zH), Q' (.inr E) h' → z_JX Z mX6_install R (k + R'.cells) (n + R'.slots) Q 133 ls E h') : z_J Z mX6_install R k n Q 133 ls st h := z_callS (M' := mX6_pairOf) dX6_install_133 rfl cs_X6_99 gw858 ha hR (z_chk1 hc) (z_chk2 hc) (z_chk3 hc) gc kr kx
theorem dX6_install_136 : decode cX6_install 136 = .ok (.iaload, 1) := by decide +kernel
theorem iX6_install_136 {f : Nat → Int32} (hh : h r = some (a, .inl (0, N, .inl f))) (hi : i = nI j) (hj : j < N) (hN : N < 2 ^ 31) (g : z_J Z mX6_install R k n Q 137 ls (.int (f j) :: st) h) : z_J Z mX6_install R k n Q 136 ls (.int i :: .ref a :: st) h := z_iald dX6_install_136 rfl hh hi hj hN g
theorem dX6_install_137 : decode cX6_install 137 = .ok (.ireturn, 1) := by decide +kernel
theorem iX6_install_137 (hk : k ≤ R.cells) (hs : n ≤ R.slots) (hq : Q (.inl (some (.int x))) h) : z_J Z mX6_install R k n Q 137 ls [.int x] h := z_iret (ty := .int) dX6_install_137 rfl rfl hk hs hq
/-! X6_uninstall -/
def bX6_uninstall_0 : zB := [(0, .aload_n 0, 1, nI 0), (1, .aload_n 0, 2, nI 0), (2, .iload_n 1, 3, nI 0)]
theorem bX6_uninstall_0_ok : z_ok cX6_uninstall 0 bX6_uninstall_0 3 = true := by decide +kernel
theorem iX6_uninstall_0 (hr : z_run 6 bX6_uninstall_0 ls st = some (ls', st')) (g : z_J Z mX6_uninstall R k n Q 3 ls' st' h) : z_J Z mX6_uninstall R k n Q 0 ls st h := z_jr bX6_uninstall_0 bX6_uninstall_0_ok hr g
theorem dX6_uninstall_3 : decode cX6_uninstall 3 = .ok (.invokevirtual 86, 3) := by decide +kernel
theorem iX6_uninstall_3 (ha : z_args 1 st [] = some (As, .ref b :: rest)) (hc : z_chk rest (.ref b :: As) 2 = true) (hh : h r = some (b, .inr (7, fs))) (hR : z_rm R R' 2 k n) (gc : z_J Z mX6_isMachine R' 0 0 Q' 0 (.ref b :: As) [] h) (kr : ∀ (v : Option Value) (h' : zH), Q' (.inl v) h' → z_J Z mX6_uninstall R (k + R'.cells) (n + R'.slots) Q 6 ls (v.toList ++ rest) h') (kx : ∀ (E : String) (h' : zH), Q' (.inr E) h' → z_JX Z mX6_uninstall R (k + R'.cells) (n + R'.slots) Q 3 ls E h') : z_J Z mX6_uninstall R k n Q 3 ls st h := z_callV (M' := mX6_isMachine) dX6_uninstall_3 rfl cs_X6_86 rfl gw825 gwp18 ha hh (ci := 7) rfl hR (z_chk1 hc) (z_chk2 hc) (z_chk3 hc) gc kr kx
theorem dX6_uninstall_6 : decode cX6_uninstall 6 = .ok (.ifCond .eq 10, 3) := by decide +kernel
theorem iX6_uninstall_6 (kt : x = 0 → z_J Z mX6_uninstall R k n Q 16 ls st h) (kf : ¬ x = 0 → z_J Z mX6_uninstall R k n Q 9 ls st h) : z_J Z mX6_uninstall R k n Q 6 ls (.int x :: st) h := z_if_eq dX6_uninstall_6 (tgt := 16) (by decide) rfl kt kf
def bX6_uninstall_9 : zB := [(9, .iload_n 2, 10, nI 0)]
theorem bX6_uninstall_9_ok : z_ok cX6_uninstall 9 bX6_uninstall_9 10 = true := by decide +kernel
theorem iX6_uninstall_9 (hr : z_run 6 bX6_uninstall_9 ls st = some (ls', st')) (g : z_J Z mX6_uninstall R k n Q 10 ls' st' h) : z_J Z mX6_uninstall R k n Q 9 ls st h := z_jr bX6_uninstall_9 bX6_uninstall_9_ok hr g
theorem dX6_uninstall_10 : decode cX6_uninstall 10 = .ok (.invokestatic 93, 3) := by decide +kernel
theorem iX6_uninstall_10 (ha : z_args 1 st [] = some (As, rest)) (hc : z_chk rest As 1 = true) (hR : z_rm R R' 1 k n) (gc : z_J Z mX6_isProduct R' 0 0 Q' 0 As [] h) (kr : ∀ (v : Option Value) (h' : zH), Q' (.inl v) h' → z_J Z mX6_uninstall R (k + R'.cells) (n + R'.slots) Q 13 ls (v.toList ++ rest) h') (kx : ∀ (E : String) (h' : zH), Q' (.inr E) h' → z_JX Z mX6_uninstall R (k + R'.cells) (n + R'.slots) Q 10 ls E h') : z_J Z mX6_uninstall R k n Q 10 ls st h := z_callS (M' := mX6_isProduct) dX6_uninstall_10 rfl cs_X6_93 gw844 ha hR (z_chk1 hc) (z_chk2 hc) (z_chk3 hc) gc kr kx
theorem dX6_uninstall_13 : decode cX6_uninstall 13 = .ok (.ifCond .ne 7, 3) := by decide +kernel
theorem iX6_uninstall_13 (kt : ¬ x = 0 → z_J Z mX6_uninstall R k n Q 20 ls st h) (kf : x = 0 → z_J Z mX6_uninstall R k n Q 16 ls st h) : z_J Z mX6_uninstall R k n Q 13 ls (.int x :: st) h := z_if_ne dX6_uninstall_13 (tgt := 20) (by decide) rfl kt kf
def bX6_uninstall_16 : zB := [(16, .iconst 1, 17, nI 1), (17, .goto 15, 32, nI 0)]
theorem bX6_uninstall_16_ok : z_ok cX6_uninstall 16 bX6_uninstall_16 32 = true := by decide +kernel
theorem iX6_uninstall_16 (hr : z_run 6 bX6_uninstall_16 ls st = some (ls', st')) (g : z_J Z mX6_uninstall R k n Q 32 ls' st' h) : z_J Z mX6_uninstall R k n Q 16 ls st h := z_jr bX6_uninstall_16 bX6_uninstall_16_ok hr g
def bX6_uninstall_20 : zB := [(20, .iload_n 3, 21, nI 0)]
theorem bX6_uninstall_20_ok : z_ok cX6_uninstall 20 bX6_uninstall_20 21 = true := by decide +kernel
theorem iX6_uninstall_20 (hr : z_run 6 bX6_uninstall_20 ls st = some (ls', st')) (g : z_J Z mX6_uninstall R k n Q 21 ls' st' h) : z_J Z mX6_uninstall R k n Q 20 ls st h := z_jr bX6_uninstall_20 bX6_uninstall_20_ok hr g
theorem dX6_uninstall_21 : decode cX6_uninstall 21 = .ok (.invokestatic 96, 3) := by decide +kernel
theorem iX6_uninstall_21 (ha : z_args 1 st [] = some (As, rest)) (hc : z_chk rest As 1 = true) (hR : z_rm R R' 1 k n) (gc : z_J Z mX6_isDay R' 0 0 Q' 0 As [] h) (kr : ∀ (v : Option Value) (h' : zH), Q' (.inl v) h' → z_J Z mX6_uninstall R (k + R'.cells) (n + R'.slots) Q 24 ls (v.toList ++ rest) h') (kx : ∀ (E : String) (h' : zH), Q' (.inr E) h' → z_JX Z mX6_uninstall R (k + R'.cells) (n + R'.slots) Q 21 ls E h') : z_J Z mX6_uninstall R k n Q 21 ls st h := z_callS (M' := mX6_isDay) dX6_uninstall_21 rfl cs_X6_96 gw855 ha hR (z_chk1 hc) (z_chk2 hc) (z_chk3 hc) gc kr kx
theorem dX6_uninstall_24 : decode cX6_uninstall 24 = .ok (.ifCond .eq 7, 3) := by decide +kernel
theorem iX6_uninstall_24 (kt : x = 0 → z_J Z mX6_uninstall R k n Q 31 ls st h) (kf : ¬ x = 0 → z_J Z mX6_uninstall R k n Q 27 ls st h) : z_J Z mX6_uninstall R k n Q 24 ls (.int x :: st) h := z_if_eq dX6_uninstall_24 (tgt := 31) (by decide) rfl kt kf
def bX6_uninstall_27 : zB := [(27, .iconst 0, 28, nI 0), (28, .goto 4, 32, nI 0)]
theorem bX6_uninstall_27_ok : z_ok cX6_uninstall 27 bX6_uninstall_27 32 = true := by decide +kernel
theorem iX6_uninstall_27 (hr : z_run 6 bX6_uninstall_27 ls st = some (ls', st')) (g : z_J Z mX6_uninstall R k n Q 32 ls' st' h) : z_J Z mX6_uninstall R k n Q 27 ls st h := z_jr bX6_uninstall_27 bX6_uninstall_27_ok hr g
def bX6_uninstall_31 : zB := [(31, .iconst 2, 32, nI 2)]
theorem bX6_uninstall_31_ok : z_ok cX6_uninstall 31 bX6_uninstall_31 32 = true := by decide +kernel
theorem iX6_uninstall_31 (hr : z_run 6 bX6_uninstall_31 ls st = some (ls', st')) (g : z_J Z mX6_uninstall R k n Q 32 ls' st' h) : z_J Z mX6_uninstall R k n Q 31 ls st h := z_jr bX6_uninstall_31 bX6_uninstall_31_ok hr g
theorem dX6_uninstall_32 : decode cX6_uninstall 32 = .ok (.putfield 68, 3) := by decide +kernel
theorem iX6_uninstall_32 (hh : h r = some (a, .inr (7, fs))) (hl : Nat.blt 0 fs.length = true) (g : z_J Z mX6_uninstall R k n Q 35 ls st (z_u h r (a, .inr (7, fs.set 0 (.int x))))) : z_J Z mX6_uninstall R k n Q 32 ls ((.int x) :: .ref a :: st) h := z_put dX6_uninstall_32 rfl fl_X6_68 fw_X6_0 rfl hh rfl rfl (by simpa [Nat.blt_eq] using hl) g
def bX6_uninstall_35 : zB := [(35, .aload_n 0, 36, nI 0)]
theorem bX6_uninstall_35_ok : z_ok cX6_uninstall 35 bX6_uninstall_35 36 = true := by decide +kernel
theorem iX6_uninstall_35 (hr : z_run 6 bX6_uninstall_35 ls st = some (ls', st')) (g : z_J Z mX6_uninstall R k n Q 36 ls' st' h) : z_J Z mX6_uninstall R k n Q 35 ls st h := z_jr bX6_uninstall_35 bX6_uninstall_35_ok hr g
theorem dX6_uninstall_36 : decode cX6_uninstall 36 = .ok (.getfield 68, 3) := by decide +kernel
theorem iX6_uninstall_36 (hh : h r = some (a, .inr (7, fs))) (hv : fs[0]? = some v) (g : z_J Z mX6_uninstall R k n Q 39 ls (v :: st) h) : z_J Z mX6_uninstall R k n Q 36 ls (.ref a :: st) h := z_get dX6_uninstall_36 rfl fl_X6_68 hh hv g
theorem dX6_uninstall_39 : decode cX6_uninstall 39 = .ok (.ifCond .le 5, 3) := by decide +kernel
theorem iX6_uninstall_39 (kt : x ≤ 0 → z_J Z mX6_uninstall R k n Q 44 ls st h) (kf : ¬ x ≤ 0 → z_J Z mX6_uninstall R k n Q 42 ls st h) : z_J Z mX6_uninstall R k n Q 39 ls (.int x :: st) h := z_if_le dX6_uninstall_39 (tgt := 44) (by decide) rfl kt kf
def bX6_uninstall_42 : zB := [(42, .iconst 0, 43, nI 0)]
theorem bX6_uninstall_42_ok : z_ok cX6_uninstall 42 bX6_uninstall_42 43 = true := by decide +kernel
theorem iX6_uninstall_42 (hr : z_run 6 bX6_uninstall_42 ls st = some (ls', st')) (g : z_J Z mX6_uninstall R k n Q 43 ls' st' h) : z_J Z mX6_uninstall R k n Q 42 ls st h := z_jr bX6_uninstall_42 bX6_uninstall_42_ok hr g
theorem dX6_uninstall_43 : decode cX6_uninstall 43 = .ok (.ireturn, 1) := by decide +kernel
theorem iX6_uninstall_43 (hk : k ≤ R.cells) (hs : n ≤ R.slots) (hq : Q (.inl (some (.int x))) h) : z_J Z mX6_uninstall R k n Q 43 ls [.int x] h := z_iret (ty := .int) dX6_uninstall_43 rfl rfl hk hs hq
def bX6_uninstall_44 : zB := [(44, .iload_n 1, 45, nI 0), (45, .iload_n 2, 46, nI 0)]
theorem bX6_uninstall_44_ok : z_ok cX6_uninstall 44 bX6_uninstall_44 46 = true := by decide +kernel
theorem iX6_uninstall_44 (hr : z_run 6 bX6_uninstall_44 ls st = some (ls', st')) (g : z_J Z mX6_uninstall R k n Q 46 ls' st' h) : z_J Z mX6_uninstall R k n Q 44 ls st h := z_jr bX6_uninstall_44 bX6_uninstall_44_ok hr g
theorem dX6_uninstall_46 : decode cX6_uninstall 46 = .ok (.invokestatic 99, 3) := by decide +kernel
theorem iX6_uninstall_46 (ha : z_args 2 st [] = some (As, rest)) (hc : z_chk rest As 2 = true) (hR : z_rm R R' 2 k n) (gc : z_J Z mX6_pairOf R' 0 0 Q' 0 As [] h) (kr : ∀ (v : Option Value) (h' : zH), Q' (.inl v) h' → z_J Z mX6_uninstall R (k + R'.cells) (n + R'.slots) Q 49 ls (v.toList ++ rest) h') (kx : ∀ (E : String) (h' : zH), Q' (.inr E) h' → z_JX Z mX6_uninstall R (k + R'.cells) (n + R'.slots) Q 46 ls E h') : z_J Z mX6_uninstall R k n Q 46 ls st h := z_callS (M' := mX6_pairOf) dX6_uninstall_46 rfl cs_X6_99 gw858 ha hR (z_chk1 hc) (z_chk2 hc) (z_chk3 hc) gc kr kx
def bX6_uninstall_49 : zB := [(49, .istore 4, 51, nI 0), (51, .aload_n 0, 52, nI 0)]
theorem bX6_uninstall_49_ok : z_ok cX6_uninstall 49 bX6_uninstall_49 52 = true := by decide +kernel
theorem iX6_uninstall_49 (hr : z_run 6 bX6_uninstall_49 ls st = some (ls', st')) (g : z_J Z mX6_uninstall R k n Q 52 ls' st' h) : z_J Z mX6_uninstall R k n Q 49 ls st h := z_jr bX6_uninstall_49 bX6_uninstall_49_ok hr g
theorem dX6_uninstall_52 : decode cX6_uninstall 52 = .ok (.getfield 38, 3) := by decide +kernel
theorem iX6_uninstall_52 (hh : h r = some (a, .inr (7, fs))) (hv : fs[12]? = some v) (g : z_J Z mX6_uninstall R k n Q 55 ls (v :: st) h) : z_J Z mX6_uninstall R k n Q 52 ls (.ref a :: st) h := z_get dX6_uninstall_52 rfl fl_X6_38 hh hv g
def bX6_uninstall_55 : zB := [(55, .iload 4, 57, nI 0)]
theorem bX6_uninstall_55_ok : z_ok cX6_uninstall 55 bX6_uninstall_55 57 = true := by decide +kernel
theorem iX6_uninstall_55 (hr : z_run 6 bX6_uninstall_55 ls st = some (ls', st')) (g : z_J Z mX6_uninstall R k n Q 57 ls' st' h) : z_J Z mX6_uninstall R k n Q 55 ls st h := z_jr bX6_uninstall_55 bX6_uninstall_55_ok hr g
theorem dX6_uninstall_57 : decode cX6_uninstall 57 = .ok (.iaload, 1) := by decide +kernel
theorem iX6_uninstall_57 {f : Nat → Int32} (hh : h r = some (a, .inl (0, N, .inl f))) (hi : i = nI j) (hj : j < N) (hN : N < 2 ^ 31) (g : z_J Z mX6_uninstall R k n Q 58 ls (.int (f j) :: st) h) : z_J Z mX6_uninstall R k n Q 57 ls (.int i :: .ref a :: st) h := z_iald dX6_uninstall_57 rfl hh hi hj hN g
theorem dX6_uninstall_58 : decode cX6_uninstall 58 = .ok (.ifCond .ne 7, 3) := by decide +kernel
theorem iX6_uninstall_58 (kt : ¬ x = 0 → z_J Z mX6_uninstall R k n Q 65 ls st h) (kf : x = 0 → z_J Z mX6_uninstall R k n Q 61 ls st h) : z_J Z mX6_uninstall R k n Q 58 ls (.int x :: st) h := z_if_ne dX6_uninstall_58 (tgt := 65) (by decide) rfl kt kf
def bX6_uninstall_61 : zB := [(61, .iconst 0, 62, nI 0), (62, .goto 23, 85, nI 0)]
theorem bX6_uninstall_61_ok : z_ok cX6_uninstall 61 bX6_uninstall_61 85 = true := by decide +kernel
theorem iX6_uninstall_61 (hr : z_run 6 bX6_uninstall_61 ls st = some (ls', st')) (g : z_J Z mX6_uninstall R k n Q 85 ls' st' h) : z_J Z mX6_uninstall R k n Q 61 ls st h := z_jr bX6_uninstall_61 bX6_uninstall_61_ok hr g
def bX6_uninstall_65 : zB := [(65, .aload_n 0, 66, nI 0)]
theorem bX6_uninstall_65_ok : z_ok cX6_uninstall 65 bX6_uninstall_65 66 = true := by decide +kernel
theorem iX6_uninstall_65 (hr : z_run 6 bX6_uninstall_65 ls st = some (ls', st')) (g : z_J Z mX6_uninstall R k n Q 66 ls' st' h) : z_J Z mX6_uninstall R k n Q 65 ls st h := z_jr bX6_uninstall_65 bX6_uninstall_65_ok hr g
theorem dX6_uninstall_66 : decode cX6_uninstall 66 = .ok (.getfield 47, 3) := by decide +kernel
theorem iX6_uninstall_66 (hh : h r = some (a, .inr (7, fs))) (hv : fs[15]? = some v) (g : z_J Z mX6_uninstall R k n Q 69 ls (v :: st) h) : z_J Z mX6_uninstall R k n Q 66 ls (.ref a :: st) h := z_get dX6_uninstall_66 rfl fl_X6_47 hh hv g
def bX6_uninstall_69 : zB := [(69, .bipush 20, 71, nI 20), (71, .iload 4, 73, nI 0), (73, .imul, 74, nI 0), (74, .aload_n 0, 75, nI 0)]
theorem bX6_uninstall_69_ok : z_ok cX6_uninstall 69 bX6_uninstall_69 75 = true := by decide +kernel
theorem iX6_uninstall_69 (hr : z_run 6 bX6_uninstall_69 ls st = some (ls', st')) (g : z_J Z mX6_uninstall R k n Q 75 ls' st' h) : z_J Z mX6_uninstall R k n Q 69 ls st h := z_jr bX6_uninstall_69 bX6_uninstall_69_ok hr g
theorem dX6_uninstall_75 : decode cX6_uninstall 75 = .ok (.getfield 38, 3) := by decide +kernel
theorem iX6_uninstall_75 (hh : h r = some (a, .inr (7, fs))) (hv : fs[12]? = some v) (g : z_J Z mX6_uninstall R k n Q 78 ls (v :: st) h) : z_J Z mX6_uninstall R k n Q 75 ls (.ref a :: st) h := z_get dX6_uninstall_75 rfl fl_X6_38 hh hv g
def bX6_uninstall_78 : zB := [(78, .iload 4, 80, nI 0)]
theorem bX6_uninstall_78_ok : z_ok cX6_uninstall 78 bX6_uninstall_78 80 = true := by decide +kernel
theorem iX6_uninstall_78 (hr : z_run 6 bX6_uninstall_78 ls st = some (ls', st')) (g : z_J Z mX6_uninstall R k n Q 80 ls' st' h) : z_J Z mX6_uninstall R k n Q 78 ls st h := z_jr bX6_uninstall_78 bX6_uninstall_78_ok hr g
theorem dX6_uninstall_80 : decode cX6_uninstall 80 = .ok (.iaload, 1) := by decide +kernel
theorem iX6_uninstall_80 {f : Nat → Int32} (hh : h r = some (a, .inl (0, N, .inl f))) (hi : i = nI j) (hj : j < N) (hN : N < 2 ^ 31) (g : z_J Z mX6_uninstall R k n Q 81 ls (.int (f j) :: st) h) : z_J Z mX6_uninstall R k n Q 80 ls (.int i :: .ref a :: st) h := z_iald dX6_uninstall_80 rfl hh hi hj hN g
def bX6_uninstall_81 : zB := [(81, .iadd, 82, nI 0), (82, .iconst 1, 83, nI 1), (83, .isub, 84, nI 0)]
theorem bX6_uninstall_81_ok : z_ok cX6_uninstall 81 bX6_uninstall_81 84 = true := by decide +kernel
theorem iX6_uninstall_81 (hr : z_run 6 bX6_uninstall_81 ls st = some (ls', st')) (g : z_J Z mX6_uninstall R k n Q 84 ls' st' h) : z_J Z mX6_uninstall R k n Q 81 ls st h := z_jr bX6_uninstall_81 bX6_uninstall_81_ok hr g
theorem dX6_uninstall_84 : decode cX6_uninstall 84 = .ok (.iaload, 1) := by decide +kernel
theorem iX6_uninstall_84 {f : Nat → Int32} (hh : h r = some (a, .inl (0, N, .inl f))) (hi : i = nI j) (hj : j < N) (hN : N < 2 ^ 31) (g : z_J Z mX6_uninstall R k n Q 85 ls (.int (f j) :: st) h) : z_J Z mX6_uninstall R k n Q 84 ls (.int i :: .ref a :: st) h := z_iald dX6_uninstall_84 rfl hh hi hj hN g
def bX6_uninstall_85 : zB := [(85, .istore 5, 87, nI 0), (87, .aload_n 0, 88, nI 0), (88, .iload 5, 90, nI 0)]
theorem bX6_uninstall_85_ok : z_ok cX6_uninstall 85 bX6_uninstall_85 90 = true := by decide +kernel
theorem iX6_uninstall_85 (hr : z_run 6 bX6_uninstall_85 ls st = some (ls', st')) (g : z_J Z mX6_uninstall R k n Q 90 ls' st' h) : z_J Z mX6_uninstall R k n Q 85 ls st h := z_jr bX6_uninstall_85 bX6_uninstall_85_ok hr g
theorem dX6_uninstall_90 : decode cX6_uninstall 90 = .ok (.ifCond .eq 13, 3) := by decide +kernel
theorem iX6_uninstall_90 (kt : x = 0 → z_J Z mX6_uninstall R k n Q 103 ls st h) (kf : ¬ x = 0 → z_J Z mX6_uninstall R k n Q 93 ls st h) : z_J Z mX6_uninstall R k n Q 90 ls (.int x :: st) h := z_if_eq dX6_uninstall_90 (tgt := 103) (by decide) rfl kt kf
def bX6_uninstall_93 : zB := [(93, .aload_n 0, 94, nI 0), (94, .iload 4, 96, nI 0)]
theorem bX6_uninstall_93_ok : z_ok cX6_uninstall 93 bX6_uninstall_93 96 = true := by decide +kernel
theorem iX6_uninstall_93 (hr : z_run 6 bX6_uninstall_93 ls st = some (ls', st')) (g : z_J Z mX6_uninstall R k n Q 96 ls' st' h) : z_J Z mX6_uninstall R k n Q 93 ls st h := z_jr bX6_uninstall_93 bX6_uninstall_93_ok hr g
theorem dX6_uninstall_96 : decode cX6_uninstall 96 = .ok (.invokevirtual 103, 3) := by decide +kernel
theorem iX6_uninstall_96 (ha : z_args 1 st [] = some (As, .ref b :: rest)) (hc : z_chk rest (.ref b :: As) 2 = true) (hh : h r = some (b, .inr (7, fs))) (hR : z_rm R R' 2 k n) (gc : z_J Z mX6_latest R' 0 0 Q' 0 (.ref b :: As) [] h) (kr : ∀ (v : Option Value) (h' : zH), Q' (.inl v) h' → z_J Z mX6_uninstall R (k + R'.cells) (n + R'.slots) Q 99 ls (v.toList ++ rest) h') (kx : ∀ (E : String) (h' : zH), Q' (.inr E) h' → z_JX Z mX6_uninstall R (k + R'.cells) (n + R'.slots) Q 96 ls E h') : z_J Z mX6_uninstall R k n Q 96 ls st h := z_callV (M' := mX6_latest) dX6_uninstall_96 rfl cs_X6_103 rfl gw862 gwp20 ha hh (ci := 7) rfl hR (z_chk1 hc) (z_chk2 hc) (z_chk3 hc) gc kr kx
def bX6_uninstall_99 : zB := [(99, .iload_n 3, 100, nI 0)]
theorem bX6_uninstall_99_ok : z_ok cX6_uninstall 99 bX6_uninstall_99 100 = true := by decide +kernel
theorem iX6_uninstall_99 (hr : z_run 6 bX6_uninstall_99 ls st = some (ls', st')) (g : z_J Z mX6_uninstall R k n Q 100 ls' st' h) : z_J Z mX6_uninstall R k n Q 99 ls st h := z_jr bX6_uninstall_99 bX6_uninstall_99_ok hr g
theorem dX6_uninstall_100 : decode cX6_uninstall 100 = .ok (.if_icmp .lt 7, 3) := by decide +kernel
theorem iX6_uninstall_100 (kt : x < y → z_J Z mX6_uninstall R k n Q 107 ls st h) (kf : ¬ x < y → z_J Z mX6_uninstall R k n Q 103 ls st h) : z_J Z mX6_uninstall R k n Q 100 ls (.int y :: .int x :: st) h := z_ic_lt dX6_uninstall_100 (tgt := 107) (by decide) rfl kt kf
def bX6_uninstall_103 : zB := [(103, .iconst 3, 104, nI 3), (104, .goto 4, 108, nI 0)]
theorem bX6_uninstall_103_ok : z_ok cX6_uninstall 103 bX6_uninstall_103 108 = true := by decide +kernel
theorem iX6_uninstall_103 (hr : z_run 6 bX6_uninstall_103 ls st = some (ls', st')) (g : z_J Z mX6_uninstall R k n Q 108 ls' st' h) : z_J Z mX6_uninstall R k n Q 103 ls st h := z_jr bX6_uninstall_103 bX6_uninstall_103_ok hr g
def bX6_uninstall_107 : zB := [(107, .iconst 0, 108, nI 0)]
theorem bX6_uninstall_107_ok : z_ok cX6_uninstall 107 bX6_uninstall_107 108 = true := by decide +kernel
theorem iX6_uninstall_107 (hr : z_run 6 bX6_uninstall_107 ls st = some (ls', st')) (g : z_J Z mX6_uninstall R k n Q 108 ls' st' h) : z_J Z mX6_uninstall R k n Q 107 ls st h := z_jr bX6_uninstall_107 bX6_uninstall_107_ok hr g
theorem dX6_uninstall_108 : decode cX6_uninstall 108 = .ok (.putfield 68, 3) := by decide +kernel
theorem iX6_uninstall_108 (hh : h r = some (a, .inr (7, fs))) (hl : Nat.blt 0 fs.length = true) (g : z_J Z mX6_uninstall R k n Q 111 ls st (z_u h r (a, .inr (7, fs.set 0 (.int x))))) : z_J Z mX6_uninstall R k n Q 108 ls ((.int x) :: .ref a :: st) h := z_put dX6_uninstall_108 rfl fl_X6_68 fw_X6_0 rfl hh rfl rfl (by simpa [Nat.blt_eq] using hl) g
def bX6_uninstall_111 : zB := [(111, .aload_n 0, 112, nI 0)]
theorem bX6_uninstall_111_ok : z_ok cX6_uninstall 111 bX6_uninstall_111 112 = true := by decide +kernel
theorem iX6_uninstall_111 (hr : z_run 6 bX6_uninstall_111 ls st = some (ls', st')) (g : z_J Z mX6_uninstall R k n Q 112 ls' st' h) : z_J Z mX6_uninstall R k n Q 111 ls st h := z_jr bX6_uninstall_111 bX6_uninstall_111_ok hr g
theorem dX6_uninstall_112 : decode cX6_uninstall 112 = .ok (.getfield 68, 3) := by decide +kernel
theorem iX6_uninstall_112 (hh : h r = some (a, .inr (7, fs))) (hv : fs[0]? = some v) (g : z_J Z mX6_uninstall R k n Q 115 ls (v :: st) h) : z_J Z mX6_uninstall R k n Q 112 ls (.ref a :: st) h := z_get dX6_uninstall_112 rfl fl_X6_68 hh hv g
theorem dX6_uninstall_115 : decode cX6_uninstall 115 = .ok (.ifCond .le 5, 3) := by decide +kernel
theorem iX6_uninstall_115 (kt : x ≤ 0 → z_J Z mX6_uninstall R k n Q 120 ls st h) (kf : ¬ x ≤ 0 → z_J Z mX6_uninstall R k n Q 118 ls st h) : z_J Z mX6_uninstall R k n Q 115 ls (.int x :: st) h := z_if_le dX6_uninstall_115 (tgt := 120) (by decide) rfl kt kf
def bX6_uninstall_118 : zB := [(118, .iconst 0, 119, nI 0)]
theorem bX6_uninstall_118_ok : z_ok cX6_uninstall 118 bX6_uninstall_118 119 = true := by decide +kernel
theorem iX6_uninstall_118 (hr : z_run 6 bX6_uninstall_118 ls st = some (ls', st')) (g : z_J Z mX6_uninstall R k n Q 119 ls' st' h) : z_J Z mX6_uninstall R k n Q 118 ls st h := z_jr bX6_uninstall_118 bX6_uninstall_118_ok hr g
theorem dX6_uninstall_119 : decode cX6_uninstall 119 = .ok (.ireturn, 1) := by decide +kernel
theorem iX6_uninstall_119 (hk : k ≤ R.cells) (hs : n ≤ R.slots) (hq : Q (.inl (some (.int x))) h) : z_J Z mX6_uninstall R k n Q 119 ls [.int x] h := z_iret (ty := .int) dX6_uninstall_119 rfl rfl hk hs hq
def bX6_uninstall_120 : zB := [(120, .aload_n 0, 121, nI 0), (121, .iload 4, 123, nI 0), (123, .iload_n 3, 124, nI 0), (124, .iconst 0, 125, nI 0)]
theorem bX6_uninstall_120_ok : z_ok cX6_uninstall 120 bX6_uninstall_120 125 = true := by decide +kernel
theorem iX6_uninstall_120 (hr : z_run 6 bX6_uninstall_120 ls st = some (ls', st')) (g : z_J Z mX6_uninstall R k n Q 125 ls' st' h) : z_J Z mX6_uninstall R k n Q 120 ls st h := z_jr bX6_uninstall_120 bX6_uninstall_120_ok hr g
theorem dX6_uninstall_125 : decode cX6_uninstall 125 = .ok (.invokevirtual 106, 3) := by decide +kernel
theorem iX6_uninstall_125 (ha : z_args 3 st [] = some (As, .ref b :: rest)) (hc : z_chk rest (.ref b :: As) 4 = true) (hh : h r = some (b, .inr (7, fs))) (hR : z_rm R R' 4 k n) (gc : z_J Z mX6_tells R' 0 0 Q' 0 (.ref b :: As) [] h) (kr : ∀ (v : Option Value) (h' : zH), Q' (.inl v) h' → z_J Z mX6_uninstall R (k + R'.cells) (n + R'.slots) Q 128 ls (v.toList ++ rest) h') (kx : ∀ (E : String) (h' : zH), Q' (.inr E) h' → z_JX Z mX6_uninstall R (k + R'.cells) (n + R'.slots) Q 125 ls E h') : z_J Z mX6_uninstall R k n Q 125 ls st h := z_callV (M' := mX6_tells) dX6_uninstall_125 rfl cs_X6_106 rfl gw866 gwp21 ha hh (ci := 7) rfl hR (z_chk1 hc) (z_chk2 hc) (z_chk3 hc) gc kr kx
def bX6_uninstall_128 : zB := [(128, .iload 5, 130, nI 0)]
theorem bX6_uninstall_128_ok : z_ok cX6_uninstall 128 bX6_uninstall_128 130 = true := by decide +kernel
theorem iX6_uninstall_128 (hr : z_run 6 bX6_uninstall_128 ls st = some (ls', st')) (g : z_J Z mX6_uninstall R k n Q 130 ls' st' h) : z_J Z mX6_uninstall R k n Q 128 ls st h := z_jr bX6_uninstall_128 bX6_uninstall_128_ok hr g
theorem dX6_uninstall_130 : decode cX6_uninstall 130 = .ok (.ireturn, 1) := by decide +kernel
theorem iX6_uninstall_130 (hk : k ≤ R.cells) (hs : n ≤ R.slots) (hq : Q (.inl (some (.int x))) h) : z_J Z mX6_uninstall R k n Q 130 ls [.int x] h := z_iret (ty := .int) dX6_uninstall_130 rfl rfl hk hs hq
/-! X6_versionOn -/
def bX6_versionOn_0 : zB := [(0, .iconst 0, 1, nI 0), (1, .istore_n 3, 2, nI 0), (2, .bipush 20, 4, nI 20), (4, .iload_n 1, 5, nI 0), (5, .imul, 6, nI 0), (6, .istore 4, 8, nI 0)]
theorem bX6_versionOn_0_ok : z_ok cX6_versionOn 0 bX6_versionOn_0 8 = true := by decide +kernel
theorem iX6_versionOn_0 (hr : z_run 5 bX6_versionOn_0 ls st = some (ls', st')) (g : z_J Z mX6_versionOn R k n Q 8 ls' st' h) : z_J Z mX6_versionOn R k n Q 0 ls st h := z_jr bX6_versionOn_0 bX6_versionOn_0_ok hr g
def bX6_versionOn_8 : zB := [(8, .iload 4, 10, nI 0), (10, .bipush 20, 12, nI 20), (12, .iload_n 1, 13, nI 0), (13, .imul, 14, nI 0), (14, .aload_n 0, 15, nI 0)]
theorem bX6_versionOn_8_ok : z_ok cX6_versionOn 8 bX6_versionOn_8 15 = true := by decide +kernel
theorem iX6_versionOn_8 (hr : z_run 5 bX6_versionOn_8 ls st = some (ls', st')) (g : z_J Z mX6_versionOn R k n Q 15 ls' st' h) : z_J Z mX6_versionOn R k n Q 8 ls st h := z_jr bX6_versionOn_8 bX6_versionOn_8_ok hr g
theorem dX6_versionOn_15 : decode cX6_versionOn 15 = .ok (.getfield 38, 3) := by decide +kernel
theorem iX6_versionOn_15 (hh : h r = some (a, .inr (7, fs))) (hv : fs[12]? = some v) (g : z_J Z mX6_versionOn R k n Q 18 ls (v :: st) h) : z_J Z mX6_versionOn R k n Q 15 ls (.ref a :: st) h := z_get dX6_versionOn_15 rfl fl_X6_38 hh hv g
def bX6_versionOn_18 : zB := [(18, .iload_n 1, 19, nI 0)]
theorem bX6_versionOn_18_ok : z_ok cX6_versionOn 18 bX6_versionOn_18 19 = true := by decide +kernel
theorem iX6_versionOn_18 (hr : z_run 5 bX6_versionOn_18 ls st = some (ls', st')) (g : z_J Z mX6_versionOn R k n Q 19 ls' st' h) : z_J Z mX6_versionOn R k n Q 18 ls st h := z_jr bX6_versionOn_18 bX6_versionOn_18_ok hr g
theorem dX6_versionOn_19 : decode cX6_versionOn 19 = .ok (.iaload, 1) := by decide +kernel
theorem iX6_versionOn_19 {f : Nat → Int32} (hh : h r = some (a, .inl (0, N, .inl f))) (hi : i = nI j) (hj : j < N) (hN : N < 2 ^ 31) (g : z_J Z mX6_versionOn R k n Q 20 ls (.int (f j) :: st) h) : z_J Z mX6_versionOn R k n Q 19 ls (.int i :: .ref a :: st) h := z_iald dX6_versionOn_19 rfl hh hi hj hN g
def bX6_versionOn_20 : zB := [(20, .iadd, 21, nI 0)]
theorem bX6_versionOn_20_ok : z_ok cX6_versionOn 20 bX6_versionOn_20 21 = true := by decide +kernel
theorem iX6_versionOn_20 (hr : z_run 5 bX6_versionOn_20 ls st = some (ls', st')) (g : z_J Z mX6_versionOn R k n Q 21 ls' st' h) : z_J Z mX6_versionOn R k n Q 20 ls st h := z_jr bX6_versionOn_20 bX6_versionOn_20_ok hr g
theorem dX6_versionOn_21 : decode cX6_versionOn 21 = .ok (.if_icmp .ge 32, 3) := by decide +kernel
theorem iX6_versionOn_21 (kt : y ≤ x → z_J Z mX6_versionOn R k n Q 53 ls st h) (kf : ¬ y ≤ x → z_J Z mX6_versionOn R k n Q 24 ls st h) : z_J Z mX6_versionOn R k n Q 21 ls (.int y :: .int x :: st) h := z_ic_ge dX6_versionOn_21 (tgt := 53) (by decide) rfl kt kf
def bX6_versionOn_24 : zB := [(24, .aload_n 0, 25, nI 0)]
theorem bX6_versionOn_24_ok : z_ok cX6_versionOn 24 bX6_versionOn_24 25 = true := by decide +kernel
theorem iX6_versionOn_24 (hr : z_run 5 bX6_versionOn_24 ls st = some (ls', st')) (g : z_J Z mX6_versionOn R k n Q 25 ls' st' h) : z_J Z mX6_versionOn R k n Q 24 ls st h := z_jr bX6_versionOn_24 bX6_versionOn_24_ok hr g
theorem dX6_versionOn_25 : decode cX6_versionOn 25 = .ok (.getfield 44, 3) := by decide +kernel
theorem iX6_versionOn_25 (hh : h r = some (a, .inr (7, fs))) (hv : fs[14]? = some v) (g : z_J Z mX6_versionOn R k n Q 28 ls (v :: st) h) : z_J Z mX6_versionOn R k n Q 25 ls (.ref a :: st) h := z_get dX6_versionOn_25 rfl fl_X6_44 hh hv g
def bX6_versionOn_28 : zB := [(28, .iload 4, 30, nI 0)]
theorem bX6_versionOn_28_ok : z_ok cX6_versionOn 28 bX6_versionOn_28 30 = true := by decide +kernel
theorem iX6_versionOn_28 (hr : z_run 5 bX6_versionOn_28 ls st = some (ls', st')) (g : z_J Z mX6_versionOn R k n Q 30 ls' st' h) : z_J Z mX6_versionOn R k n Q 28 ls st h := z_jr bX6_versionOn_28 bX6_versionOn_28_ok hr g
theorem dX6_versionOn_30 : decode cX6_versionOn 30 = .ok (.iaload, 1) := by decide +kernel
theorem iX6_versionOn_30 {f : Nat → Int32} (hh : h r = some (a, .inl (0, N, .inl f))) (hi : i = nI j) (hj : j < N) (hN : N < 2 ^ 31) (g : z_J Z mX6_versionOn R k n Q 31 ls (.int (f j) :: st) h) : z_J Z mX6_versionOn R k n Q 30 ls (.int i :: .ref a :: st) h := z_iald dX6_versionOn_30 rfl hh hi hj hN g
def bX6_versionOn_31 : zB := [(31, .iload_n 2, 32, nI 0)]
theorem bX6_versionOn_31_ok : z_ok cX6_versionOn 31 bX6_versionOn_31 32 = true := by decide +kernel
theorem iX6_versionOn_31 (hr : z_run 5 bX6_versionOn_31 ls st = some (ls', st')) (g : z_J Z mX6_versionOn R k n Q 32 ls' st' h) : z_J Z mX6_versionOn R k n Q 31 ls st h := z_jr bX6_versionOn_31 bX6_versionOn_31_ok hr g
theorem dX6_versionOn_32 : decode cX6_versionOn 32 = .ok (.if_icmp .gt 13, 3) := by decide +kernel
theorem iX6_versionOn_32 (kt : y < x → z_J Z mX6_versionOn R k n Q 45 ls st h) (kf : ¬ y < x → z_J Z mX6_versionOn R k n Q 35 ls st h) : z_J Z mX6_versionOn R k n Q 32 ls (.int y :: .int x :: st) h := z_ic_gt dX6_versionOn_32 (tgt := 45) (by decide) rfl kt kf
def bX6_versionOn_35 : zB := [(35, .aload_n 0, 36, nI 0)]
theorem bX6_versionOn_35_ok : z_ok cX6_versionOn 35 bX6_versionOn_35 36 = true := by decide +kernel
theorem iX6_versionOn_35 (hr : z_run 5 bX6_versionOn_35 ls st = some (ls', st')) (g : z_J Z mX6_versionOn R k n Q 36 ls' st' h) : z_J Z mX6_versionOn R k n Q 35 ls st h := z_jr bX6_versionOn_35 bX6_versionOn_35_ok hr g
theorem dX6_versionOn_36 : decode cX6_versionOn 36 = .ok (.getfield 47, 3) := by decide +kernel
theorem iX6_versionOn_36 (hh : h r = some (a, .inr (7, fs))) (hv : fs[15]? = some v) (g : z_J Z mX6_versionOn R k n Q 39 ls (v :: st) h) : z_J Z mX6_versionOn R k n Q 36 ls (.ref a :: st) h := z_get dX6_versionOn_36 rfl fl_X6_47 hh hv g
def bX6_versionOn_39 : zB := [(39, .iload 4, 41, nI 0)]
theorem bX6_versionOn_39_ok : z_ok cX6_versionOn 39 bX6_versionOn_39 41 = true := by decide +kernel
theorem iX6_versionOn_39 (hr : z_run 5 bX6_versionOn_39 ls st = some (ls', st')) (g : z_J Z mX6_versionOn R k n Q 41 ls' st' h) : z_J Z mX6_versionOn R k n Q 39 ls st h := z_jr bX6_versionOn_39 bX6_versionOn_39_ok hr g
theorem dX6_versionOn_41 : decode cX6_versionOn 41 = .ok (.iaload, 1) := by decide +kernel
theorem iX6_versionOn_41 {f : Nat → Int32} (hh : h r = some (a, .inl (0, N, .inl f))) (hi : i = nI j) (hj : j < N) (hN : N < 2 ^ 31) (g : z_J Z mX6_versionOn R k n Q 42 ls (.int (f j) :: st) h) : z_J Z mX6_versionOn R k n Q 41 ls (.int i :: .ref a :: st) h := z_iald dX6_versionOn_41 rfl hh hi hj hN g
def bX6_versionOn_42 : zB := [(42, .goto 4, 46, nI 0)]
theorem bX6_versionOn_42_ok : z_ok cX6_versionOn 42 bX6_versionOn_42 46 = true := by decide +kernel
theorem iX6_versionOn_42 (hr : z_run 5 bX6_versionOn_42 ls st = some (ls', st')) (g : z_J Z mX6_versionOn R k n Q 46 ls' st' h) : z_J Z mX6_versionOn R k n Q 42 ls st h := z_jr bX6_versionOn_42 bX6_versionOn_42_ok hr g
def bX6_versionOn_45 : zB := [(45, .iload_n 3, 46, nI 0)]
theorem bX6_versionOn_45_ok : z_ok cX6_versionOn 45 bX6_versionOn_45 46 = true := by decide +kernel
theorem iX6_versionOn_45 (hr : z_run 5 bX6_versionOn_45 ls st = some (ls', st')) (g : z_J Z mX6_versionOn R k n Q 46 ls' st' h) : z_J Z mX6_versionOn R k n Q 45 ls st h := z_jr bX6_versionOn_45 bX6_versionOn_45_ok hr g
def bX6_versionOn_46 : zB := [(46, .istore_n 3, 47, nI 0), (47, .iinc 4 1, 50, nI 1), (50, .goto (-42), 8, nI 0)]
theorem bX6_versionOn_46_ok : z_ok cX6_versionOn 46 bX6_versionOn_46 8 = true := by decide +kernel
theorem iX6_versionOn_46 (hr : z_run 5 bX6_versionOn_46 ls st = some (ls', st')) (g : z_J Z mX6_versionOn R k n Q 8 ls' st' h) : z_J Z mX6_versionOn R k n Q 46 ls st h := z_jr bX6_versionOn_46 bX6_versionOn_46_ok hr g
def bX6_versionOn_53 : zB := [(53, .iload_n 3, 54, nI 0)]
theorem bX6_versionOn_53_ok : z_ok cX6_versionOn 53 bX6_versionOn_53 54 = true := by decide +kernel
theorem iX6_versionOn_53 (hr : z_run 5 bX6_versionOn_53 ls st = some (ls', st')) (g : z_J Z mX6_versionOn R k n Q 54 ls' st' h) : z_J Z mX6_versionOn R k n Q 53 ls st h := z_jr bX6_versionOn_53 bX6_versionOn_53_ok hr g
theorem dX6_versionOn_54 : decode cX6_versionOn 54 = .ok (.ireturn, 1) := by decide +kernel
theorem iX6_versionOn_54 (hk : k ≤ R.cells) (hs : n ≤ R.slots) (hq : Q (.inl (some (.int x))) h) : z_J Z mX6_versionOn R k n Q 54 ls [.int x] h := z_iret (ty := .int) dX6_versionOn_54 rfl rfl hk hs hq
/-! X6_runs -/
def bX6_runs_0 : zB := [(0, .aload_n 0, 1, nI 0), (1, .aload_n 0, 2, nI 0), (2, .iload_n 1, 3, nI 0)]
theorem bX6_runs_0_ok : z_ok cX6_runs 0 bX6_runs_0 3 = true := by decide +kernel
theorem iX6_runs_0 (hr : z_run 4 bX6_runs_0 ls st = some (ls', st')) (g : z_J Z mX6_runs R k n Q 3 ls' st' h) : z_J Z mX6_runs R k n Q 0 ls st h := z_jr bX6_runs_0 bX6_runs_0_ok hr g
theorem dX6_runs_3 : decode cX6_runs 3 = .ok (.invokevirtual 86, 3) := by decide +kernel
theorem iX6_runs_3 (ha : z_args 1 st [] = some (As, .ref b :: rest)) (hc : z_chk rest (.ref b :: As) 2 = true) (hh : h r = some (b, .inr (7, fs))) (hR : z_rm R R' 2 k n) (gc : z_J Z mX6_isMachine R' 0 0 Q' 0 (.ref b :: As) [] h) (kr : ∀ (v : Option Value) (h' : zH), Q' (.inl v) h' → z_J Z mX6_runs R (k + R'.cells) (n + R'.slots) Q 6 ls (v.toList ++ rest) h') (kx : ∀ (E : String) (h' : zH), Q' (.inr E) h' → z_JX Z mX6_runs R (k + R'.cells) (n + R'.slots) Q 3 ls E h') : z_J Z mX6_runs R k n Q 3 ls st h := z_callV (M' := mX6_isMachine) dX6_runs_3 rfl cs_X6_86 rfl gw825 gwp18 ha hh (ci := 7) rfl hR (z_chk1 hc) (z_chk2 hc) (z_chk3 hc) gc kr kx
theorem dX6_runs_6 : decode cX6_runs 6 = .ok (.ifCond .eq 10, 3) := by decide +kernel
theorem iX6_runs_6 (kt : x = 0 → z_J Z mX6_runs R k n Q 16 ls st h) (kf : ¬ x = 0 → z_J Z mX6_runs R k n Q 9 ls st h) : z_J Z mX6_runs R k n Q 6 ls (.int x :: st) h := z_if_eq dX6_runs_6 (tgt := 16) (by decide) rfl kt kf
def bX6_runs_9 : zB := [(9, .iload_n 2, 10, nI 0)]
theorem bX6_runs_9_ok : z_ok cX6_runs 9 bX6_runs_9 10 = true := by decide +kernel
theorem iX6_runs_9 (hr : z_run 4 bX6_runs_9 ls st = some (ls', st')) (g : z_J Z mX6_runs R k n Q 10 ls' st' h) : z_J Z mX6_runs R k n Q 9 ls st h := z_jr bX6_runs_9 bX6_runs_9_ok hr g
theorem dX6_runs_10 : decode cX6_runs 10 = .ok (.invokestatic 93, 3) := by decide +kernel
theorem iX6_runs_10 (ha : z_args 1 st [] = some (As, rest)) (hc : z_chk rest As 1 = true) (hR : z_rm R R' 1 k n) (gc : z_J Z mX6_isProduct R' 0 0 Q' 0 As [] h) (kr : ∀ (v : Option Value) (h' : zH), Q' (.inl v) h' → z_J Z mX6_runs R (k + R'.cells) (n + R'.slots) Q 13 ls (v.toList ++ rest) h') (kx : ∀ (E : String) (h' : zH), Q' (.inr E) h' → z_JX Z mX6_runs R (k + R'.cells) (n + R'.slots) Q 10 ls E h') : z_J Z mX6_runs R k n Q 10 ls st h := z_callS (M' := mX6_isProduct) dX6_runs_10 rfl cs_X6_93 gw844 ha hR (z_chk1 hc) (z_chk2 hc) (z_chk3 hc) gc kr kx
theorem dX6_runs_13 : decode cX6_runs 13 = .ok (.ifCond .ne 7, 3) := by decide +kernel
theorem iX6_runs_13 (kt : ¬ x = 0 → z_J Z mX6_runs R k n Q 20 ls st h) (kf : x = 0 → z_J Z mX6_runs R k n Q 16 ls st h) : z_J Z mX6_runs R k n Q 13 ls (.int x :: st) h := z_if_ne dX6_runs_13 (tgt := 20) (by decide) rfl kt kf
def bX6_runs_16 : zB := [(16, .iconst 1, 17, nI 1), (17, .goto 15, 32, nI 0)]
theorem bX6_runs_16_ok : z_ok cX6_runs 16 bX6_runs_16 32 = true := by decide +kernel
theorem iX6_runs_16 (hr : z_run 4 bX6_runs_16 ls st = some (ls', st')) (g : z_J Z mX6_runs R k n Q 32 ls' st' h) : z_J Z mX6_runs R k n Q 16 ls st h := z_jr bX6_runs_16 bX6_runs_16_ok hr g
def bX6_runs_20 : zB := [(20, .iload_n 3, 21, nI 0)]
theorem bX6_runs_20_ok : z_ok cX6_runs 20 bX6_runs_20 21 = true := by decide +kernel
theorem iX6_runs_20 (hr : z_run 4 bX6_runs_20 ls st = some (ls', st')) (g : z_J Z mX6_runs R k n Q 21 ls' st' h) : z_J Z mX6_runs R k n Q 20 ls st h := z_jr bX6_runs_20 bX6_runs_20_ok hr g
theorem dX6_runs_21 : decode cX6_runs 21 = .ok (.invokestatic 96, 3) := by decide +kernel
theorem iX6_runs_21 (ha : z_args 1 st [] = some (As, rest)) (hc : z_chk rest As 1 = true) (hR : z_rm R R' 1 k n) (gc : z_J Z mX6_isDay R' 0 0 Q' 0 As [] h) (kr : ∀ (v : Option Value) (h' : zH), Q' (.inl v) h' → z_J Z mX6_runs R (k + R'.cells) (n + R'.slots) Q 24 ls (v.toList ++ rest) h') (kx : ∀ (E : String) (h' : zH), Q' (.inr E) h' → z_JX Z mX6_runs R (k + R'.cells) (n + R'.slots) Q 21 ls E h') : z_J Z mX6_runs R k n Q 21 ls st h := z_callS (M' := mX6_isDay) dX6_runs_21 rfl cs_X6_96 gw855 ha hR (z_chk1 hc) (z_chk2 hc) (z_chk3 hc) gc kr kx
theorem dX6_runs_24 : decode cX6_runs 24 = .ok (.ifCond .eq 7, 3) := by decide +kernel
theorem iX6_runs_24 (kt : x = 0 → z_J Z mX6_runs R k n Q 31 ls st h) (kf : ¬ x = 0 → z_J Z mX6_runs R k n Q 27 ls st h) : z_J Z mX6_runs R k n Q 24 ls (.int x :: st) h := z_if_eq dX6_runs_24 (tgt := 31) (by decide) rfl kt kf
def bX6_runs_27 : zB := [(27, .iconst 0, 28, nI 0), (28, .goto 4, 32, nI 0)]
theorem bX6_runs_27_ok : z_ok cX6_runs 27 bX6_runs_27 32 = true := by decide +kernel
theorem iX6_runs_27 (hr : z_run 4 bX6_runs_27 ls st = some (ls', st')) (g : z_J Z mX6_runs R k n Q 32 ls' st' h) : z_J Z mX6_runs R k n Q 27 ls st h := z_jr bX6_runs_27 bX6_runs_27_ok hr g
def bX6_runs_31 : zB := [(31, .iconst 2, 32, nI 2)]
theorem bX6_runs_31_ok : z_ok cX6_runs 31 bX6_runs_31 32 = true := by decide +kernel
theorem iX6_runs_31 (hr : z_run 4 bX6_runs_31 ls st = some (ls', st')) (g : z_J Z mX6_runs R k n Q 32 ls' st' h) : z_J Z mX6_runs R k n Q 31 ls st h := z_jr bX6_runs_31 bX6_runs_31_ok hr g
theorem dX6_runs_32 : decode cX6_runs 32 = .ok (.putfield 68, 3) := by decide +kernel
theorem iX6_runs_32 (hh : h r = some (a, .inr (7, fs))) (hl : Nat.blt 0 fs.length = true) (g : z_J Z mX6_runs R k n Q 35 ls st (z_u h r (a, .inr (7, fs.set 0 (.int x))))) : z_J Z mX6_runs R k n Q 32 ls ((.int x) :: .ref a :: st) h := z_put dX6_runs_32 rfl fl_X6_68 fw_X6_0 rfl hh rfl rfl (by simpa [Nat.blt_eq] using hl) g
def bX6_runs_35 : zB := [(35, .aload_n 0, 36, nI 0)]
theorem bX6_runs_35_ok : z_ok cX6_runs 35 bX6_runs_35 36 = true := by decide +kernel
theorem iX6_runs_35 (hr : z_run 4 bX6_runs_35 ls st = some (ls', st')) (g : z_J Z mX6_runs R k n Q 36 ls' st' h) : z_J Z mX6_runs R k n Q 35 ls st h := z_jr bX6_runs_35 bX6_runs_35_ok hr g
theorem dX6_runs_36 : decode cX6_runs 36 = .ok (.getfield 68, 3) := by decide +kernel
theorem iX6_runs_36 (hh : h r = some (a, .inr (7, fs))) (hv : fs[0]? = some v) (g : z_J Z mX6_runs R k n Q 39 ls (v :: st) h) : z_J Z mX6_runs R k n Q 36 ls (.ref a :: st) h := z_get dX6_runs_36 rfl fl_X6_68 hh hv g
theorem dX6_runs_39 : decode cX6_runs 39 = .ok (.ifCond .le 7, 3) := by decide +kernel
theorem iX6_runs_39 (kt : x ≤ 0 → z_J Z mX6_runs R k n Q 46 ls st h) (kf : ¬ x ≤ 0 → z_J Z mX6_runs R k n Q 42 ls st h) : z_J Z mX6_runs R k n Q 39 ls (.int x :: st) h := z_if_le dX6_runs_39 (tgt := 46) (by decide) rfl kt kf
def bX6_runs_42 : zB := [(42, .iconst 0, 43, nI 0), (43, .goto 13, 56, nI 0)]
theorem bX6_runs_42_ok : z_ok cX6_runs 42 bX6_runs_42 56 = true := by decide +kernel
theorem iX6_runs_42 (hr : z_run 4 bX6_runs_42 ls st = some (ls', st')) (g : z_J Z mX6_runs R k n Q 56 ls' st' h) : z_J Z mX6_runs R k n Q 42 ls st h := z_jr bX6_runs_42 bX6_runs_42_ok hr g
def bX6_runs_46 : zB := [(46, .aload_n 0, 47, nI 0), (47, .iload_n 1, 48, nI 0), (48, .iload_n 2, 49, nI 0)]
theorem bX6_runs_46_ok : z_ok cX6_runs 46 bX6_runs_46 49 = true := by decide +kernel
theorem iX6_runs_46 (hr : z_run 4 bX6_runs_46 ls st = some (ls', st')) (g : z_J Z mX6_runs R k n Q 49 ls' st' h) : z_J Z mX6_runs R k n Q 46 ls st h := z_jr bX6_runs_46 bX6_runs_46_ok hr g
theorem dX6_runs_49 : decode cX6_runs 49 = .ok (.invokestatic 99, 3) := by decide +kernel
theorem iX6_runs_49 (ha : z_args 2 st [] = some (As, rest)) (hc : z_chk rest As 2 = true) (hR : z_rm R R' 2 k n) (gc : z_J Z mX6_pairOf R' 0 0 Q' 0 As [] h) (kr : ∀ (v : Option Value) (h' : zH), Q' (.inl v) h' → z_J Z mX6_runs R (k + R'.cells) (n + R'.slots) Q 52 ls (v.toList ++ rest) h') (kx : ∀ (E : String) (h' : zH), Q' (.inr E) h' → z_JX Z mX6_runs R (k + R'.cells) (n + R'.slots) Q 49 ls E h') : z_J Z mX6_runs R k n Q 49 ls st h := z_callS (M' := mX6_pairOf) dX6_runs_49 rfl cs_X6_99 gw858 ha hR (z_chk1 hc) (z_chk2 hc) (z_chk3 hc) gc kr kx
def bX6_runs_52 : zB := [(52, .iload_n 3, 53, nI 0)]
theorem bX6_runs_52_ok : z_ok cX6_runs 52 bX6_runs_52 53 = true := by decide +kernel
theorem iX6_runs_52 (hr : z_run 4 bX6_runs_52 ls st = some (ls', st')) (g : z_J Z mX6_runs R k n Q 53 ls' st' h) : z_J Z mX6_runs R k n Q 52 ls st h := z_jr bX6_runs_52 bX6_runs_52_ok hr g
theorem dX6_runs_53 : decode cX6_runs 53 = .ok (.invokevirtual 110, 3) := by decide +kernel
theorem iX6_runs_53 (ha : z_args 2 st [] = some (As, .ref b :: rest)) (hc : z_chk rest (.ref b :: As) 5 = true) (hh : h r = some (b, .inr (7, fs))) (hR : z_rm R R' 5 k n) (gc : z_J Z mX6_versionOn R' 0 0 Q' 0 (.ref b :: As) [] h) (kr : ∀ (v : Option Value) (h' : zH), Q' (.inl v) h' → z_J Z mX6_runs R (k + R'.cells) (n + R'.slots) Q 56 ls (v.toList ++ rest) h') (kx : ∀ (E : String) (h' : zH), Q' (.inr E) h' → z_JX Z mX6_runs R (k + R'.cells) (n + R'.slots) Q 53 ls E h') : z_J Z mX6_runs R k n Q 53 ls st h := z_callV (M' := mX6_versionOn) dX6_runs_53 rfl cs_X6_110 rfl gw878 gwp22 ha hh (ci := 7) rfl hR (z_chk1 hc) (z_chk2 hc) (z_chk3 hc) gc kr kx
theorem dX6_runs_56 : decode cX6_runs 56 = .ok (.ireturn, 1) := by decide +kernel
theorem iX6_runs_56 (hk : k ≤ R.cells) (hs : n ≤ R.slots) (hq : Q (.inl (some (.int x))) h) : z_J Z mX6_runs R k n Q 56 ls [.int x] h := z_iret (ty := .int) dX6_runs_56 rfl rfl hk hs hq
/-! X6_laysNeeds -/
def bX6_laysNeeds_0 : zB := [(0, .aload_n 0, 1, nI 0), (1, .iconst 0, 2, nI 0)]
theorem bX6_laysNeeds_0_ok : z_ok cX6_laysNeeds 0 bX6_laysNeeds_0 2 = true := by decide +kernel
theorem iX6_laysNeeds_0 (hr : z_run 7 bX6_laysNeeds_0 ls st = some (ls', st')) (g : z_J Z mX6_laysNeeds R k n Q 2 ls' st' h) : z_J Z mX6_laysNeeds R k n Q 0 ls st h := z_jr bX6_laysNeeds_0 bX6_laysNeeds_0_ok hr g
theorem dX6_laysNeeds_2 : decode cX6_laysNeeds 2 = .ok (.putfield 113, 3) := by decide +kernel
theorem iX6_laysNeeds_2 (hh : h r = some (a, .inr (7, fs))) (hl : Nat.blt 16 fs.length = true) (g : z_J Z mX6_laysNeeds R k n Q 5 ls st (z_u h r (a, .inr (7, fs.set 16 (.int x))))) : z_J Z mX6_laysNeeds R k n Q 2 ls ((.int x) :: .ref a :: st) h := z_put dX6_laysNeeds_2 rfl fl_X6_113 fw_X6_16 rfl hh rfl rfl (by simpa [Nat.blt_eq] using hl) g
def bX6_laysNeeds_5 : zB := [(5, .iconst 0, 6, nI 0), (6, .istore_n 2, 7, nI 0)]
theorem bX6_laysNeeds_5_ok : z_ok cX6_laysNeeds 5 bX6_laysNeeds_5 7 = true := by decide +kernel
theorem iX6_laysNeeds_5 (hr : z_run 7 bX6_laysNeeds_5 ls st = some (ls', st')) (g : z_J Z mX6_laysNeeds R k n Q 7 ls' st' h) : z_J Z mX6_laysNeeds R k n Q 5 ls st h := z_jr bX6_laysNeeds_5 bX6_laysNeeds_5_ok hr g
def bX6_laysNeeds_7 : zB := [(7, .iload_n 2, 8, nI 0), (8, .aload_n 0, 9, nI 0)]
theorem bX6_laysNeeds_7_ok : z_ok cX6_laysNeeds 7 bX6_laysNeeds_7 9 = true := by decide +kernel
theorem iX6_laysNeeds_7 (hr : z_run 7 bX6_laysNeeds_7 ls st = some (ls', st')) (g : z_J Z mX6_laysNeeds R k n Q 9 ls' st' h) : z_J Z mX6_laysNeeds R k n Q 7 ls st h := z_jr bX6_laysNeeds_7 bX6_laysNeeds_7_ok hr g
theorem dX6_laysNeeds_9 : decode cX6_laysNeeds 9 = .ok (.getfield 76, 3) := by decide +kernel
theorem iX6_laysNeeds_9 (hh : h r = some (a, .inr (7, fs))) (hv : fs[7]? = some v) (g : z_J Z mX6_laysNeeds R k n Q 12 ls (v :: st) h) : z_J Z mX6_laysNeeds R k n Q 9 ls (.ref a :: st) h := z_get dX6_laysNeeds_9 rfl fl_X6_76 hh hv g
theorem dX6_laysNeeds_12 : decode cX6_laysNeeds 12 = .ok (.if_icmp .ge 163, 3) := by decide +kernel
theorem iX6_laysNeeds_12 (kt : y ≤ x → z_J Z mX6_laysNeeds R k n Q 175 ls st h) (kf : ¬ y ≤ x → z_J Z mX6_laysNeeds R k n Q 15 ls st h) : z_J Z mX6_laysNeeds R k n Q 12 ls (.int y :: .int x :: st) h := z_ic_ge dX6_laysNeeds_12 (tgt := 175) (by decide) rfl kt kf
def bX6_laysNeeds_15 : zB := [(15, .iconst 0, 16, nI 0), (16, .istore_n 3, 17, nI 0)]
theorem bX6_laysNeeds_15_ok : z_ok cX6_laysNeeds 15 bX6_laysNeeds_15 17 = true := by decide +kernel
theorem iX6_laysNeeds_15 (hr : z_run 7 bX6_laysNeeds_15 ls st = some (ls', st')) (g : z_J Z mX6_laysNeeds R k n Q 17 ls' st' h) : z_J Z mX6_laysNeeds R k n Q 15 ls st h := z_jr bX6_laysNeeds_15 bX6_laysNeeds_15_ok hr g
def bX6_laysNeeds_17 : zB := [(17, .iload_n 3, 18, nI 0), (18, .iconst 5, 19, nI 5)]
theorem bX6_laysNeeds_17_ok : z_ok cX6_laysNeeds 17 bX6_laysNeeds_17 19 = true := by decide +kernel
theorem iX6_laysNeeds_17 (hr : z_run 7 bX6_laysNeeds_17 ls st = some (ls', st')) (g : z_J Z mX6_laysNeeds R k n Q 19 ls' st' h) : z_J Z mX6_laysNeeds R k n Q 17 ls st h := z_jr bX6_laysNeeds_17 bX6_laysNeeds_17_ok hr g
theorem dX6_laysNeeds_19 : decode cX6_laysNeeds 19 = .ok (.if_icmp .ge 150, 3) := by decide +kernel
theorem iX6_laysNeeds_19 (kt : y ≤ x → z_J Z mX6_laysNeeds R k n Q 169 ls st h) (kf : ¬ y ≤ x → z_J Z mX6_laysNeeds R k n Q 22 ls st h) : z_J Z mX6_laysNeeds R k n Q 19 ls (.int y :: .int x :: st) h := z_ic_ge dX6_laysNeeds_19 (tgt := 169) (by decide) rfl kt kf
def bX6_laysNeeds_22 : zB := [(22, .iconst 0, 23, nI 0), (23, .istore 4, 25, nI 0), (25, .iconst 0, 26, nI 0), (26, .istore 5, 28, nI 0)]
theorem bX6_laysNeeds_22_ok : z_ok cX6_laysNeeds 22 bX6_laysNeeds_22 28 = true := by decide +kernel
theorem iX6_laysNeeds_22 (hr : z_run 7 bX6_laysNeeds_22 ls st = some (ls', st')) (g : z_J Z mX6_laysNeeds R k n Q 28 ls' st' h) : z_J Z mX6_laysNeeds R k n Q 22 ls st h := z_jr bX6_laysNeeds_22 bX6_laysNeeds_22_ok hr g
def bX6_laysNeeds_28 : zB := [(28, .iload 5, 30, nI 0), (30, .aload_n 0, 31, nI 0)]
theorem bX6_laysNeeds_28_ok : z_ok cX6_laysNeeds 28 bX6_laysNeeds_28 31 = true := by decide +kernel
theorem iX6_laysNeeds_28 (hr : z_run 7 bX6_laysNeeds_28 ls st = some (ls', st')) (g : z_J Z mX6_laysNeeds R k n Q 31 ls' st' h) : z_J Z mX6_laysNeeds R k n Q 28 ls st h := z_jr bX6_laysNeeds_28 bX6_laysNeeds_28_ok hr g
theorem dX6_laysNeeds_31 : decode cX6_laysNeeds 31 = .ok (.getfield 76, 3) := by decide +kernel
theorem iX6_laysNeeds_31 (hh : h r = some (a, .inr (7, fs))) (hv : fs[7]? = some v) (g : z_J Z mX6_laysNeeds R k n Q 34 ls (v :: st) h) : z_J Z mX6_laysNeeds R k n Q 31 ls (.ref a :: st) h := z_get dX6_laysNeeds_31 rfl fl_X6_76 hh hv g
theorem dX6_laysNeeds_34 : decode cX6_laysNeeds 34 = .ok (.if_icmp .ge 52, 3) := by decide +kernel
theorem iX6_laysNeeds_34 (kt : y ≤ x → z_J Z mX6_laysNeeds R k n Q 86 ls st h) (kf : ¬ y ≤ x → z_J Z mX6_laysNeeds R k n Q 37 ls st h) : z_J Z mX6_laysNeeds R k n Q 34 ls (.int y :: .int x :: st) h := z_ic_ge dX6_laysNeeds_34 (tgt := 86) (by decide) rfl kt kf
def bX6_laysNeeds_37 : zB := [(37, .aload_n 0, 38, nI 0), (38, .iload 5, 40, nI 0)]
theorem bX6_laysNeeds_37_ok : z_ok cX6_laysNeeds 37 bX6_laysNeeds_37 40 = true := by decide +kernel
theorem iX6_laysNeeds_37 (hr : z_run 7 bX6_laysNeeds_37 ls st = some (ls', st')) (g : z_J Z mX6_laysNeeds R k n Q 40 ls' st' h) : z_J Z mX6_laysNeeds R k n Q 37 ls st h := z_jr bX6_laysNeeds_37 bX6_laysNeeds_37_ok hr g
theorem dX6_laysNeeds_40 : decode cX6_laysNeeds 40 = .ok (.invokevirtual 89, 3) := by decide +kernel
theorem iX6_laysNeeds_40 (ha : z_args 1 st [] = some (As, .ref b :: rest)) (hc : z_chk rest (.ref b :: As) 3 = true) (hh : h r = some (b, .inr (7, fs))) (hR : z_rm R R' 3 k n) (gc : z_J Z mX6_countsBy R' 0 0 Q' 0 (.ref b :: As) [] h) (kr : ∀ (v : Option Value) (h' : zH), Q' (.inl v) h' → z_J Z mX6_laysNeeds R (k + R'.cells) (n + R'.slots) Q 43 ls (v.toList ++ rest) h') (kx : ∀ (E : String) (h' : zH), Q' (.inr E) h' → z_JX Z mX6_laysNeeds R (k + R'.cells) (n + R'.slots) Q 40 ls E h') : z_J Z mX6_laysNeeds R k n Q 40 ls st h := z_callV (M' := mX6_countsBy) dX6_laysNeeds_40 rfl cs_X6_89 rfl gw837 gwp19 ha hh (ci := 7) rfl hR (z_chk1 hc) (z_chk2 hc) (z_chk3 hc) gc kr kx
def bX6_laysNeeds_43 : zB := [(43, .iload_n 2, 44, nI 0)]
theorem bX6_laysNeeds_43_ok : z_ok cX6_laysNeeds 43 bX6_laysNeeds_43 44 = true := by decide +kernel
theorem iX6_laysNeeds_43 (hr : z_run 7 bX6_laysNeeds_43 ls st = some (ls', st')) (g : z_J Z mX6_laysNeeds R k n Q 44 ls' st' h) : z_J Z mX6_laysNeeds R k n Q 43 ls st h := z_jr bX6_laysNeeds_43 bX6_laysNeeds_43_ok hr g
theorem dX6_laysNeeds_44 : decode cX6_laysNeeds 44 = .ok (.if_icmp .ne 17, 3) := by decide +kernel
theorem iX6_laysNeeds_44 (kt : ¬ x = y → z_J Z mX6_laysNeeds R k n Q 61 ls st h) (kf : x = y → z_J Z mX6_laysNeeds R k n Q 47 ls st h) : z_J Z mX6_laysNeeds R k n Q 44 ls (.int y :: .int x :: st) h := z_ic_ne dX6_laysNeeds_44 (tgt := 61) (by decide) rfl kt kf
def bX6_laysNeeds_47 : zB := [(47, .aload_n 0, 48, nI 0), (48, .iload 5, 50, nI 0), (50, .iload_n 3, 51, nI 0)]
theorem bX6_laysNeeds_47_ok : z_ok cX6_laysNeeds 47 bX6_laysNeeds_47 51 = true := by decide +kernel
theorem iX6_laysNeeds_47 (hr : z_run 7 bX6_laysNeeds_47 ls st = some (ls', st')) (g : z_J Z mX6_laysNeeds R k n Q 51 ls' st' h) : z_J Z mX6_laysNeeds R k n Q 47 ls st h := z_jr bX6_laysNeeds_47 bX6_laysNeeds_47_ok hr g
theorem dX6_laysNeeds_51 : decode cX6_laysNeeds 51 = .ok (.invokestatic 99, 3) := by decide +kernel
theorem iX6_laysNeeds_51 (ha : z_args 2 st [] = some (As, rest)) (hc : z_chk rest As 2 = true) (hR : z_rm R R' 2 k n) (gc : z_J Z mX6_pairOf R' 0 0 Q' 0 As [] h) (kr : ∀ (v : Option Value) (h' : zH), Q' (.inl v) h' → z_J Z mX6_laysNeeds R (k + R'.cells) (n + R'.slots) Q 54 ls (v.toList ++ rest) h') (kx : ∀ (E : String) (h' : zH), Q' (.inr E) h' → z_JX Z mX6_laysNeeds R (k + R'.cells) (n + R'.slots) Q 51 ls E h') : z_J Z mX6_laysNeeds R k n Q 51 ls st h := z_callS (M' := mX6_pairOf) dX6_laysNeeds_51 rfl cs_X6_99 gw858 ha hR (z_chk1 hc) (z_chk2 hc) (z_chk3 hc) gc kr kx
def bX6_laysNeeds_54 : zB := [(54, .iload_n 1, 55, nI 0)]
theorem bX6_laysNeeds_54_ok : z_ok cX6_laysNeeds 54 bX6_laysNeeds_54 55 = true := by decide +kernel
theorem iX6_laysNeeds_54 (hr : z_run 7 bX6_laysNeeds_54 ls st = some (ls', st')) (g : z_J Z mX6_laysNeeds R k n Q 55 ls' st' h) : z_J Z mX6_laysNeeds R k n Q 54 ls st h := z_jr bX6_laysNeeds_54 bX6_laysNeeds_54_ok hr g
theorem dX6_laysNeeds_55 : decode cX6_laysNeeds 55 = .ok (.invokevirtual 110, 3) := by decide +kernel
theorem iX6_laysNeeds_55 (ha : z_args 2 st [] = some (As, .ref b :: rest)) (hc : z_chk rest (.ref b :: As) 5 = true) (hh : h r = some (b, .inr (7, fs))) (hR : z_rm R R' 5 k n) (gc : z_J Z mX6_versionOn R' 0 0 Q' 0 (.ref b :: As) [] h) (kr : ∀ (v : Option Value) (h' : zH), Q' (.inl v) h' → z_J Z mX6_laysNeeds R (k + R'.cells) (n + R'.slots) Q 58 ls (v.toList ++ rest) h') (kx : ∀ (E : String) (h' : zH), Q' (.inr E) h' → z_JX Z mX6_laysNeeds R (k + R'.cells) (n + R'.slots) Q 55 ls E h') : z_J Z mX6_laysNeeds R k n Q 55 ls st h := z_callV (M' := mX6_versionOn) dX6_laysNeeds_55 rfl cs_X6_110 rfl gw878 gwp22 ha hh (ci := 7) rfl hR (z_chk1 hc) (z_chk2 hc) (z_chk3 hc) gc kr kx
def bX6_laysNeeds_58 : zB := [(58, .goto 4, 62, nI 0)]
theorem bX6_laysNeeds_58_ok : z_ok cX6_laysNeeds 58 bX6_laysNeeds_58 62 = true := by decide +kernel
theorem iX6_laysNeeds_58 (hr : z_run 7 bX6_laysNeeds_58 ls st = some (ls', st')) (g : z_J Z mX6_laysNeeds R k n Q 62 ls' st' h) : z_J Z mX6_laysNeeds R k n Q 58 ls st h := z_jr bX6_laysNeeds_58 bX6_laysNeeds_58_ok hr g
def bX6_laysNeeds_61 : zB := [(61, .iconst 0, 62, nI 0)]
theorem bX6_laysNeeds_61_ok : z_ok cX6_laysNeeds 61 bX6_laysNeeds_61 62 = true := by decide +kernel
theorem iX6_laysNeeds_61 (hr : z_run 7 bX6_laysNeeds_61 ls st = some (ls', st')) (g : z_J Z mX6_laysNeeds R k n Q 62 ls' st' h) : z_J Z mX6_laysNeeds R k n Q 61 ls st h := z_jr bX6_laysNeeds_61 bX6_laysNeeds_61_ok hr g
def bX6_laysNeeds_62 : zB := [(62, .istore 6, 64, nI 0), (64, .iload 6, 66, nI 0), (66, .iload 4, 68, nI 0)]
theorem bX6_laysNeeds_62_ok : z_ok cX6_laysNeeds 62 bX6_laysNeeds_62 68 = true := by decide +kernel
theorem iX6_laysNeeds_62 (hr : z_run 7 bX6_laysNeeds_62 ls st = some (ls', st')) (g : z_J Z mX6_laysNeeds R k n Q 68 ls' st' h) : z_J Z mX6_laysNeeds R k n Q 62 ls st h := z_jr bX6_laysNeeds_62 bX6_laysNeeds_62_ok hr g
theorem dX6_laysNeeds_68 : decode cX6_laysNeeds 68 = .ok (.if_icmp .le 8, 3) := by decide +kernel
theorem iX6_laysNeeds_68 (kt : x ≤ y → z_J Z mX6_laysNeeds R k n Q 76 ls st h) (kf : ¬ x ≤ y → z_J Z mX6_laysNeeds R k n Q 71 ls st h) : z_J Z mX6_laysNeeds R k n Q 68 ls (.int y :: .int x :: st) h := z_ic_le dX6_laysNeeds_68 (tgt := 76) (by decide) rfl kt kf
def bX6_laysNeeds_71 : zB := [(71, .iload 6, 73, nI 0), (73, .goto 5, 78, nI 0)]
theorem bX6_laysNeeds_71_ok : z_ok cX6_laysNeeds 71 bX6_laysNeeds_71 78 = true := by decide +kernel
theorem iX6_laysNeeds_71 (hr : z_run 7 bX6_laysNeeds_71 ls st = some (ls', st')) (g : z_J Z mX6_laysNeeds R k n Q 78 ls' st' h) : z_J Z mX6_laysNeeds R k n Q 71 ls st h := z_jr bX6_laysNeeds_71 bX6_laysNeeds_71_ok hr g
def bX6_laysNeeds_76 : zB := [(76, .iload 4, 78, nI 0)]
theorem bX6_laysNeeds_76_ok : z_ok cX6_laysNeeds 76 bX6_laysNeeds_76 78 = true := by decide +kernel
theorem iX6_laysNeeds_76 (hr : z_run 7 bX6_laysNeeds_76 ls st = some (ls', st')) (g : z_J Z mX6_laysNeeds R k n Q 78 ls' st' h) : z_J Z mX6_laysNeeds R k n Q 76 ls st h := z_jr bX6_laysNeeds_76 bX6_laysNeeds_76_ok hr g
def bX6_laysNeeds_78 : zB := [(78, .istore 4, 80, nI 0), (80, .iinc 5 1, 83, nI 1), (83, .goto (-55), 28, nI 0)]
theorem bX6_laysNeeds_78_ok : z_ok cX6_laysNeeds 78 bX6_laysNeeds_78 28 = true := by decide +kernel
theorem iX6_laysNeeds_78 (hr : z_run 7 bX6_laysNeeds_78 ls st = some (ls', st')) (g : z_J Z mX6_laysNeeds R k n Q 28 ls' st' h) : z_J Z mX6_laysNeeds R k n Q 78 ls st h := z_jr bX6_laysNeeds_78 bX6_laysNeeds_78_ok hr g
def bX6_laysNeeds_86 : zB := [(86, .iload 4, 88, nI 0)]
theorem bX6_laysNeeds_86_ok : z_ok cX6_laysNeeds 86 bX6_laysNeeds_86 88 = true := by decide +kernel
theorem iX6_laysNeeds_86 (hr : z_run 7 bX6_laysNeeds_86 ls st = some (ls', st')) (g : z_J Z mX6_laysNeeds R k n Q 88 ls' st' h) : z_J Z mX6_laysNeeds R k n Q 86 ls st h := z_jr bX6_laysNeeds_86 bX6_laysNeeds_86_ok hr g
theorem dX6_laysNeeds_88 : decode cX6_laysNeeds 88 = .ok (.ifCond .le 75, 3) := by decide +kernel
theorem iX6_laysNeeds_88 (kt : x ≤ 0 → z_J Z mX6_laysNeeds R k n Q 163 ls st h) (kf : ¬ x ≤ 0 → z_J Z mX6_laysNeeds R k n Q 91 ls st h) : z_J Z mX6_laysNeeds R k n Q 88 ls (.int x :: st) h := z_if_le dX6_laysNeeds_88 (tgt := 163) (by decide) rfl kt kf
def bX6_laysNeeds_91 : zB := [(91, .aload_n 0, 92, nI 0)]
theorem bX6_laysNeeds_91_ok : z_ok cX6_laysNeeds 91 bX6_laysNeeds_91 92 = true := by decide +kernel
theorem iX6_laysNeeds_91 (hr : z_run 7 bX6_laysNeeds_91 ls st = some (ls', st')) (g : z_J Z mX6_laysNeeds R k n Q 92 ls' st' h) : z_J Z mX6_laysNeeds R k n Q 91 ls st h := z_jr bX6_laysNeeds_91 bX6_laysNeeds_91_ok hr g
theorem dX6_laysNeeds_92 : decode cX6_laysNeeds 92 = .ok (.getfield 50, 3) := by decide +kernel
theorem iX6_laysNeeds_92 (hh : h r = some (a, .inr (7, fs))) (hv : fs[17]? = some v) (g : z_J Z mX6_laysNeeds R k n Q 95 ls (v :: st) h) : z_J Z mX6_laysNeeds R k n Q 92 ls (.ref a :: st) h := z_get dX6_laysNeeds_92 rfl fl_X6_50 hh hv g
def bX6_laysNeeds_95 : zB := [(95, .aload_n 0, 96, nI 0)]
theorem bX6_laysNeeds_95_ok : z_ok cX6_laysNeeds 95 bX6_laysNeeds_95 96 = true := by decide +kernel
theorem iX6_laysNeeds_95 (hr : z_run 7 bX6_laysNeeds_95 ls st = some (ls', st')) (g : z_J Z mX6_laysNeeds R k n Q 96 ls' st' h) : z_J Z mX6_laysNeeds R k n Q 95 ls st h := z_jr bX6_laysNeeds_95 bX6_laysNeeds_95_ok hr g
theorem dX6_laysNeeds_96 : decode cX6_laysNeeds 96 = .ok (.getfield 113, 3) := by decide +kernel
theorem iX6_laysNeeds_96 (hh : h r = some (a, .inr (7, fs))) (hv : fs[16]? = some v) (g : z_J Z mX6_laysNeeds R k n Q 99 ls (v :: st) h) : z_J Z mX6_laysNeeds R k n Q 96 ls (.ref a :: st) h := z_get dX6_laysNeeds_96 rfl fl_X6_113 hh hv g
def bX6_laysNeeds_99 : zB := [(99, .iload_n 2, 100, nI 0)]
theorem bX6_laysNeeds_99_ok : z_ok cX6_laysNeeds 99 bX6_laysNeeds_99 100 = true := by decide +kernel
theorem iX6_laysNeeds_99 (hr : z_run 7 bX6_laysNeeds_99 ls st = some (ls', st')) (g : z_J Z mX6_laysNeeds R k n Q 100 ls' st' h) : z_J Z mX6_laysNeeds R k n Q 99 ls st h := z_jr bX6_laysNeeds_99 bX6_laysNeeds_99_ok hr g
theorem dX6_laysNeeds_100 : decode cX6_laysNeeds 100 = .ok (.iastore, 1) := by decide +kernel
theorem iX6_laysNeeds_100 {f : Nat → Int32} (hh : h r = some (a, .inl (0, N, .inl f))) (hi : i = nI j) (hj : j < N) (hN : N < 2 ^ 31) (g : z_J Z mX6_laysNeeds R k n Q 101 ls st (z_u h r (a, .inl (0, N, .inl (upd f j x))))) : z_J Z mX6_laysNeeds R k n Q 100 ls (.int x :: .int i :: .ref a :: st) h := z_iast dX6_laysNeeds_100 rfl hh hi hj hN g
def bX6_laysNeeds_101 : zB := [(101, .aload_n 0, 102, nI 0)]
theorem bX6_laysNeeds_101_ok : z_ok cX6_laysNeeds 101 bX6_laysNeeds_101 102 = true := by decide +kernel
theorem iX6_laysNeeds_101 (hr : z_run 7 bX6_laysNeeds_101 ls st = some (ls', st')) (g : z_J Z mX6_laysNeeds R k n Q 102 ls' st' h) : z_J Z mX6_laysNeeds R k n Q 101 ls st h := z_jr bX6_laysNeeds_101 bX6_laysNeeds_101_ok hr g
theorem dX6_laysNeeds_102 : decode cX6_laysNeeds 102 = .ok (.getfield 53, 3) := by decide +kernel
theorem iX6_laysNeeds_102 (hh : h r = some (a, .inr (7, fs))) (hv : fs[18]? = some v) (g : z_J Z mX6_laysNeeds R k n Q 105 ls (v :: st) h) : z_J Z mX6_laysNeeds R k n Q 102 ls (.ref a :: st) h := z_get dX6_laysNeeds_102 rfl fl_X6_53 hh hv g
def bX6_laysNeeds_105 : zB := [(105, .aload_n 0, 106, nI 0)]
theorem bX6_laysNeeds_105_ok : z_ok cX6_laysNeeds 105 bX6_laysNeeds_105 106 = true := by decide +kernel
theorem iX6_laysNeeds_105 (hr : z_run 7 bX6_laysNeeds_105 ls st = some (ls', st')) (g : z_J Z mX6_laysNeeds R k n Q 106 ls' st' h) : z_J Z mX6_laysNeeds R k n Q 105 ls st h := z_jr bX6_laysNeeds_105 bX6_laysNeeds_105_ok hr g
theorem dX6_laysNeeds_106 : decode cX6_laysNeeds 106 = .ok (.getfield 113, 3) := by decide +kernel
theorem iX6_laysNeeds_106 (hh : h r = some (a, .inr (7, fs))) (hv : fs[16]? = some v) (g : z_J Z mX6_laysNeeds R k n Q 109 ls (v :: st) h) : z_J Z mX6_laysNeeds R k n Q 106 ls (.ref a :: st) h := z_get dX6_laysNeeds_106 rfl fl_X6_113 hh hv g
def bX6_laysNeeds_109 : zB := [(109, .iload_n 3, 110, nI 0)]
theorem bX6_laysNeeds_109_ok : z_ok cX6_laysNeeds 109 bX6_laysNeeds_109 110 = true := by decide +kernel
theorem iX6_laysNeeds_109 (hr : z_run 7 bX6_laysNeeds_109 ls st = some (ls', st')) (g : z_J Z mX6_laysNeeds R k n Q 110 ls' st' h) : z_J Z mX6_laysNeeds R k n Q 109 ls st h := z_jr bX6_laysNeeds_109 bX6_laysNeeds_109_ok hr g
theorem dX6_laysNeeds_110 : decode cX6_laysNeeds 110 = .ok (.iastore, 1) := by decide +kernel
theorem iX6_laysNeeds_110 {f : Nat → Int32} (hh : h r = some (a, .inl (0, N, .inl f))) (hi : i = nI j) (hj : j < N) (hN : N < 2 ^ 31) (g : z_J Z mX6_laysNeeds R k n Q 111 ls st (z_u h r (a, .inl (0, N, .inl (upd f j x))))) : z_J Z mX6_laysNeeds R k n Q 110 ls (.int x :: .int i :: .ref a :: st) h := z_iast dX6_laysNeeds_110 rfl hh hi hj hN g
def bX6_laysNeeds_111 : zB := [(111, .aload_n 0, 112, nI 0)]
theorem bX6_laysNeeds_111_ok : z_ok cX6_laysNeeds 111 bX6_laysNeeds_111 112 = true := by decide +kernel
theorem iX6_laysNeeds_111 (hr : z_run 7 bX6_laysNeeds_111 ls st = some (ls', st')) (g : z_J Z mX6_laysNeeds R k n Q 112 ls' st' h) : z_J Z mX6_laysNeeds R k n Q 111 ls st h := z_jr bX6_laysNeeds_111 bX6_laysNeeds_111_ok hr g
theorem dX6_laysNeeds_112 : decode cX6_laysNeeds 112 = .ok (.getfield 56, 3) := by decide +kernel
theorem iX6_laysNeeds_112 (hh : h r = some (a, .inr (7, fs))) (hv : fs[19]? = some v) (g : z_J Z mX6_laysNeeds R k n Q 115 ls (v :: st) h) : z_J Z mX6_laysNeeds R k n Q 112 ls (.ref a :: st) h := z_get dX6_laysNeeds_112 rfl fl_X6_56 hh hv g
def bX6_laysNeeds_115 : zB := [(115, .aload_n 0, 116, nI 0)]
theorem bX6_laysNeeds_115_ok : z_ok cX6_laysNeeds 115 bX6_laysNeeds_115 116 = true := by decide +kernel
theorem iX6_laysNeeds_115 (hr : z_run 7 bX6_laysNeeds_115 ls st = some (ls', st')) (g : z_J Z mX6_laysNeeds R k n Q 116 ls' st' h) : z_J Z mX6_laysNeeds R k n Q 115 ls st h := z_jr bX6_laysNeeds_115 bX6_laysNeeds_115_ok hr g
theorem dX6_laysNeeds_116 : decode cX6_laysNeeds 116 = .ok (.getfield 113, 3) := by decide +kernel
theorem iX6_laysNeeds_116 (hh : h r = some (a, .inr (7, fs))) (hv : fs[16]? = some v) (g : z_J Z mX6_laysNeeds R k n Q 119 ls (v :: st) h) : z_J Z mX6_laysNeeds R k n Q 116 ls (.ref a :: st) h := z_get dX6_laysNeeds_116 rfl fl_X6_113 hh hv g
def bX6_laysNeeds_119 : zB := [(119, .iload 4, 121, nI 0)]
theorem bX6_laysNeeds_119_ok : z_ok cX6_laysNeeds 119 bX6_laysNeeds_119 121 = true := by decide +kernel
theorem iX6_laysNeeds_119 (hr : z_run 7 bX6_laysNeeds_119 ls st = some (ls', st')) (g : z_J Z mX6_laysNeeds R k n Q 121 ls' st' h) : z_J Z mX6_laysNeeds R k n Q 119 ls st h := z_jr bX6_laysNeeds_119 bX6_laysNeeds_119_ok hr g
theorem dX6_laysNeeds_121 : decode cX6_laysNeeds 121 = .ok (.iastore, 1) := by decide +kernel
theorem iX6_laysNeeds_121 {f : Nat → Int32} (hh : h r = some (a, .inl (0, N, .inl f))) (hi : i = nI j) (hj : j < N) (hN : N < 2 ^ 31) (g : z_J Z mX6_laysNeeds R k n Q 122 ls st (z_u h r (a, .inl (0, N, .inl (upd f j x))))) : z_J Z mX6_laysNeeds R k n Q 121 ls (.int x :: .int i :: .ref a :: st) h := z_iast dX6_laysNeeds_121 rfl hh hi hj hN g
def bX6_laysNeeds_122 : zB := [(122, .aload_n 0, 123, nI 0)]
theorem bX6_laysNeeds_122_ok : z_ok cX6_laysNeeds 122 bX6_laysNeeds_122 123 = true := by decide +kernel
theorem iX6_laysNeeds_122 (hr : z_run 7 bX6_laysNeeds_122 ls st = some (ls', st')) (g : z_J Z mX6_laysNeeds R k n Q 123 ls' st' h) : z_J Z mX6_laysNeeds R k n Q 122 ls st h := z_jr bX6_laysNeeds_122 bX6_laysNeeds_122_ok hr g
theorem dX6_laysNeeds_123 : decode cX6_laysNeeds 123 = .ok (.getfield 59, 3) := by decide +kernel
theorem iX6_laysNeeds_123 (hh : h r = some (a, .inr (7, fs))) (hv : fs[20]? = some v) (g : z_J Z mX6_laysNeeds R k n Q 126 ls (v :: st) h) : z_J Z mX6_laysNeeds R k n Q 123 ls (.ref a :: st) h := z_get dX6_laysNeeds_123 rfl fl_X6_59 hh hv g
def bX6_laysNeeds_126 : zB := [(126, .aload_n 0, 127, nI 0)]
theorem bX6_laysNeeds_126_ok : z_ok cX6_laysNeeds 126 bX6_laysNeeds_126 127 = true := by decide +kernel
theorem iX6_laysNeeds_126 (hr : z_run 7 bX6_laysNeeds_126 ls st = some (ls', st')) (g : z_J Z mX6_laysNeeds R k n Q 127 ls' st' h) : z_J Z mX6_laysNeeds R k n Q 126 ls st h := z_jr bX6_laysNeeds_126 bX6_laysNeeds_126_ok hr g
theorem dX6_laysNeeds_127 : decode cX6_laysNeeds 127 = .ok (.getfield 113, 3) := by decide +kernel
theorem iX6_laysNeeds_127 (hh : h r = some (a, .inr (7, fs))) (hv : fs[16]? = some v) (g : z_J Z mX6_laysNeeds R k n Q 130 ls (v :: st) h) : z_J Z mX6_laysNeeds R k n Q 127 ls (.ref a :: st) h := z_get dX6_laysNeeds_127 rfl fl_X6_113 hh hv g
def bX6_laysNeeds_130 : zB := [(130, .aload_n 0, 131, nI 0)]
theorem bX6_laysNeeds_130_ok : z_ok cX6_laysNeeds 130 bX6_laysNeeds_130 131 = true := by decide +kernel
theorem iX6_laysNeeds_130 (hr : z_run 7 bX6_laysNeeds_130 ls st = some (ls', st')) (g : z_J Z mX6_laysNeeds R k n Q 131 ls' st' h) : z_J Z mX6_laysNeeds R k n Q 130 ls st h := z_jr bX6_laysNeeds_130 bX6_laysNeeds_130_ok hr g
theorem dX6_laysNeeds_131 : decode cX6_laysNeeds 131 = .ok (.getfield 25, 3) := by decide +kernel
theorem iX6_laysNeeds_131 (hh : h r = some (a, .inr (7, fs))) (hv : fs[8]? = some v) (g : z_J Z mX6_laysNeeds R k n Q 134 ls (v :: st) h) : z_J Z mX6_laysNeeds R k n Q 131 ls (.ref a :: st) h := z_get dX6_laysNeeds_131 rfl fl_X6_25 hh hv g
def bX6_laysNeeds_134 : zB := [(134, .iload_n 2, 135, nI 0)]
theorem bX6_laysNeeds_134_ok : z_ok cX6_laysNeeds 134 bX6_laysNeeds_134 135 = true := by decide +kernel
theorem iX6_laysNeeds_134 (hr : z_run 7 bX6_laysNeeds_134 ls st = some (ls', st')) (g : z_J Z mX6_laysNeeds R k n Q 135 ls' st' h) : z_J Z mX6_laysNeeds R k n Q 134 ls st h := z_jr bX6_laysNeeds_134 bX6_laysNeeds_134_ok hr g
theorem dX6_laysNeeds_135 : decode cX6_laysNeeds 135 = .ok (.iaload, 1) := by decide +kernel
theorem iX6_laysNeeds_135 {f : Nat → Int32} (hh : h r = some (a, .inl (0, N, .inl f))) (hi : i = nI j) (hj : j < N) (hN : N < 2 ^ 31) (g : z_J Z mX6_laysNeeds R k n Q 136 ls (.int (f j) :: st) h) : z_J Z mX6_laysNeeds R k n Q 135 ls (.int i :: .ref a :: st) h := z_iald dX6_laysNeeds_135 rfl hh hi hj hN g
def bX6_laysNeeds_136 : zB := [(136, .aload_n 0, 137, nI 0)]
theorem bX6_laysNeeds_136_ok : z_ok cX6_laysNeeds 136 bX6_laysNeeds_136 137 = true := by decide +kernel
theorem iX6_laysNeeds_136 (hr : z_run 7 bX6_laysNeeds_136 ls st = some (ls', st')) (g : z_J Z mX6_laysNeeds R k n Q 137 ls' st' h) : z_J Z mX6_laysNeeds R k n Q 136 ls st h := z_jr bX6_laysNeeds_136 bX6_laysNeeds_136_ok hr g
theorem dX6_laysNeeds_137 : decode cX6_laysNeeds 137 = .ok (.getfield 35, 3) := by decide +kernel
theorem iX6_laysNeeds_137 (hh : h r = some (a, .inr (7, fs))) (hv : fs[11]? = some v) (g : z_J Z mX6_laysNeeds R k n Q 140 ls (v :: st) h) : z_J Z mX6_laysNeeds R k n Q 137 ls (.ref a :: st) h := z_get dX6_laysNeeds_137 rfl fl_X6_35 hh hv g
def bX6_laysNeeds_140 : zB := [(140, .iload_n 3, 141, nI 0)]
theorem bX6_laysNeeds_140_ok : z_ok cX6_laysNeeds 140 bX6_laysNeeds_140 141 = true := by decide +kernel
theorem iX6_laysNeeds_140 (hr : z_run 7 bX6_laysNeeds_140 ls st = some (ls', st')) (g : z_J Z mX6_laysNeeds R k n Q 141 ls' st' h) : z_J Z mX6_laysNeeds R k n Q 140 ls st h := z_jr bX6_laysNeeds_140 bX6_laysNeeds_140_ok hr g
theorem dX6_laysNeeds_141 : decode cX6_laysNeeds 141 = .ok (.iaload, 1) := by decide +kernel
theorem iX6_laysNeeds_141 {f : Nat → Int32} (hh : h r = some (a, .inl (0, N, .inl f))) (hi : i = nI j) (hj : j < N) (hN : N < 2 ^ 31) (g : z_J Z mX6_laysNeeds R k n Q 142 ls (.int (f j) :: st) h) : z_J Z mX6_laysNeeds R k n Q 141 ls (.int i :: .ref a :: st) h := z_iald dX6_laysNeeds_141 rfl hh hi hj hN g
def bX6_laysNeeds_142 : zB := [(142, .iadd, 143, nI 0), (143, .iconst 1, 144, nI 1), (144, .isub, 145, nI 0), (145, .aload_n 0, 146, nI 0)]
theorem bX6_laysNeeds_142_ok : z_ok cX6_laysNeeds 142 bX6_laysNeeds_142 146 = true := by decide +kernel
theorem iX6_laysNeeds_142 (hr : z_run 7 bX6_laysNeeds_142 ls st = some (ls', st')) (g : z_J Z mX6_laysNeeds R k n Q 146 ls' st' h) : z_J Z mX6_laysNeeds R k n Q 142 ls st h := z_jr bX6_laysNeeds_142 bX6_laysNeeds_142_ok hr g
theorem dX6_laysNeeds_146 : decode cX6_laysNeeds 146 = .ok (.getfield 35, 3) := by decide +kernel
theorem iX6_laysNeeds_146 (hh : h r = some (a, .inr (7, fs))) (hv : fs[11]? = some v) (g : z_J Z mX6_laysNeeds R k n Q 149 ls (v :: st) h) : z_J Z mX6_laysNeeds R k n Q 146 ls (.ref a :: st) h := z_get dX6_laysNeeds_146 rfl fl_X6_35 hh hv g
def bX6_laysNeeds_149 : zB := [(149, .iload_n 3, 150, nI 0)]
theorem bX6_laysNeeds_149_ok : z_ok cX6_laysNeeds 149 bX6_laysNeeds_149 150 = true := by decide +kernel
theorem iX6_laysNeeds_149 (hr : z_run 7 bX6_laysNeeds_149 ls st = some (ls', st')) (g : z_J Z mX6_laysNeeds R k n Q 150 ls' st' h) : z_J Z mX6_laysNeeds R k n Q 149 ls st h := z_jr bX6_laysNeeds_149 bX6_laysNeeds_149_ok hr g
theorem dX6_laysNeeds_150 : decode cX6_laysNeeds 150 = .ok (.iaload, 1) := by decide +kernel
theorem iX6_laysNeeds_150 {f : Nat → Int32} (hh : h r = some (a, .inl (0, N, .inl f))) (hi : i = nI j) (hj : j < N) (hN : N < 2 ^ 31) (g : z_J Z mX6_laysNeeds R k n Q 151 ls (.int (f j) :: st) h) : z_J Z mX6_laysNeeds R k n Q 150 ls (.int i :: .ref a :: st) h := z_iald dX6_laysNeeds_150 rfl hh hi hj hN g
theorem dX6_laysNeeds_151 : decode cX6_laysNeeds 151 = .ok (.idiv, 1) := by decide +kernel
theorem iX6_laysNeeds_151 (hy : ¬ y = 0) (g : z_J Z mX6_laysNeeds R k n Q 152 ls (.int (x / y) :: st) h) : z_J Z mX6_laysNeeds R k n Q 151 ls (.int y :: .int x :: st) h := z_idiv dX6_laysNeeds_151 rfl hy g
theorem dX6_laysNeeds_152 : decode cX6_laysNeeds 152 = .ok (.iastore, 1) := by decide +kernel
theorem iX6_laysNeeds_152 {f : Nat → Int32} (hh : h r = some (a, .inl (0, N, .inl f))) (hi : i = nI j) (hj : j < N) (hN : N < 2 ^ 31) (g : z_J Z mX6_laysNeeds R k n Q 153 ls st (z_u h r (a, .inl (0, N, .inl (upd f j x))))) : z_J Z mX6_laysNeeds R k n Q 152 ls (.int x :: .int i :: .ref a :: st) h := z_iast dX6_laysNeeds_152 rfl hh hi hj hN g
def bX6_laysNeeds_153 : zB := [(153, .aload_n 0, 154, nI 0), (154, .dup, 155, nI 0)]
theorem bX6_laysNeeds_153_ok : z_ok cX6_laysNeeds 153 bX6_laysNeeds_153 155 = true := by decide +kernel
theorem iX6_laysNeeds_153 (hr : z_run 7 bX6_laysNeeds_153 ls st = some (ls', st')) (g : z_J Z mX6_laysNeeds R k n Q 155 ls' st' h) : z_J Z mX6_laysNeeds R k n Q 153 ls st h := z_jr bX6_laysNeeds_153 bX6_laysNeeds_153_ok hr g
theorem dX6_laysNeeds_155 : decode cX6_laysNeeds 155 = .ok (.getfield 113, 3) := by decide +kernel
theorem iX6_laysNeeds_155 (hh : h r = some (a, .inr (7, fs))) (hv : fs[16]? = some v) (g : z_J Z mX6_laysNeeds R k n Q 158 ls (v :: st) h) : z_J Z mX6_laysNeeds R k n Q 155 ls (.ref a :: st) h := z_get dX6_laysNeeds_155 rfl fl_X6_113 hh hv g
def bX6_laysNeeds_158 : zB := [(158, .iconst 1, 159, nI 1), (159, .iadd, 160, nI 0)]
theorem bX6_laysNeeds_158_ok : z_ok cX6_laysNeeds 158 bX6_laysNeeds_158 160 = true := by decide +kernel
theorem iX6_laysNeeds_158 (hr : z_run 7 bX6_laysNeeds_158 ls st = some (ls', st')) (g : z_J Z mX6_laysNeeds R k n Q 160 ls' st' h) : z_J Z mX6_laysNeeds R k n Q 158 ls st h := z_jr bX6_laysNeeds_158 bX6_laysNeeds_158_ok hr g
theorem dX6_laysNeeds_160 : decode cX6_laysNeeds 160 = .ok (.putfield 113, 3) := by decide +kernel
theorem iX6_laysNeeds_160 (hh : h r = some (a, .inr (7, fs))) (hl : Nat.blt 16 fs.length = true) (g : z_J Z mX6_laysNeeds R k n Q 163 ls st (z_u h r (a, .inr (7, fs.set 16 (.int x))))) : z_J Z mX6_laysNeeds R k n Q 160 ls ((.int x) :: .ref a :: st) h := z_put dX6_laysNeeds_160 rfl fl_X6_113 fw_X6_16 rfl hh rfl rfl (by simpa [Nat.blt_eq] using hl) g
def bX6_laysNeeds_163 : zB := [(163, .iinc 3 1, 166, nI 1), (166, .goto (-149), 17, nI 0)]
theorem bX6_laysNeeds_163_ok : z_ok cX6_laysNeeds 163 bX6_laysNeeds_163 17 = true := by decide +kernel
theorem iX6_laysNeeds_163 (hr : z_run 7 bX6_laysNeeds_163 ls st = some (ls', st')) (g : z_J Z mX6_laysNeeds R k n Q 17 ls' st' h) : z_J Z mX6_laysNeeds R k n Q 163 ls st h := z_jr bX6_laysNeeds_163 bX6_laysNeeds_163_ok hr g
def bX6_laysNeeds_169 : zB := [(169, .iinc 2 1, 172, nI 1), (172, .goto (-165), 7, nI 0)]
theorem bX6_laysNeeds_169_ok : z_ok cX6_laysNeeds 169 bX6_laysNeeds_169 7 = true := by decide +kernel
theorem iX6_laysNeeds_169 (hr : z_run 7 bX6_laysNeeds_169 ls st = some (ls', st')) (g : z_J Z mX6_laysNeeds R k n Q 7 ls' st' h) : z_J Z mX6_laysNeeds R k n Q 169 ls st h := z_jr bX6_laysNeeds_169 bX6_laysNeeds_169_ok hr g
theorem dX6_laysNeeds_175 : decode cX6_laysNeeds 175 = .ok (.return_, 1) := by decide +kernel
theorem iX6_laysNeeds_175 (hk : k ≤ R.cells) (hs : n ≤ R.slots) (hq : Q (.inl none) h) : z_J Z mX6_laysNeeds R k n Q 175 ls [] h := z_vret dX6_laysNeeds_175 rfl hk hs hq
/-! X6_rightsFor -/
def bX6_rightsFor_0 : zB := [(0, .iconst 0, 1, nI 0), (1, .istore 4, 3, nI 0), (3, .iconst 0, 4, nI 0), (4, .istore 5, 6, nI 0)]
theorem bX6_rightsFor_0_ok : z_ok cX6_rightsFor 0 bX6_rightsFor_0 6 = true := by decide +kernel
theorem iX6_rightsFor_0 (hr : z_run 7 bX6_rightsFor_0 ls st = some (ls', st')) (g : z_J Z mX6_rightsFor R k n Q 6 ls' st' h) : z_J Z mX6_rightsFor R k n Q 0 ls st h := z_jr bX6_rightsFor_0 bX6_rightsFor_0_ok hr g
def bX6_rightsFor_6 : zB := [(6, .iload 5, 8, nI 0), (8, .aload_n 0, 9, nI 0)]
theorem bX6_rightsFor_6_ok : z_ok cX6_rightsFor 6 bX6_rightsFor_6 9 = true := by decide +kernel
theorem iX6_rightsFor_6 (hr : z_run 7 bX6_rightsFor_6 ls st = some (ls', st')) (g : z_J Z mX6_rightsFor R k n Q 9 ls' st' h) : z_J Z mX6_rightsFor R k n Q 6 ls st h := z_jr bX6_rightsFor_6 bX6_rightsFor_6_ok hr g
theorem dX6_rightsFor_9 : decode cX6_rightsFor 9 = .ok (.getfield 79, 3) := by decide +kernel
theorem iX6_rightsFor_9 (hh : h r = some (a, .inr (7, fs))) (hv : fs[1]? = some v) (g : z_J Z mX6_rightsFor R k n Q 12 ls (v :: st) h) : z_J Z mX6_rightsFor R k n Q 9 ls (.ref a :: st) h := z_get dX6_rightsFor_9 rfl fl_X6_79 hh hv g
theorem dX6_rightsFor_12 : decode cX6_rightsFor 12 = .ok (.if_icmp .ge 81, 3) := by decide +kernel
theorem iX6_rightsFor_12 (kt : y ≤ x → z_J Z mX6_rightsFor R k n Q 93 ls st h) (kf : ¬ y ≤ x → z_J Z mX6_rightsFor R k n Q 15 ls st h) : z_J Z mX6_rightsFor R k n Q 12 ls (.int y :: .int x :: st) h := z_ic_ge dX6_rightsFor_12 (tgt := 93) (by decide) rfl kt kf
def bX6_rightsFor_15 : zB := [(15, .aload_n 0, 16, nI 0)]
theorem bX6_rightsFor_15_ok : z_ok cX6_rightsFor 15 bX6_rightsFor_15 16 = true := by decide +kernel
theorem iX6_rightsFor_15 (hr : z_run 7 bX6_rightsFor_15 ls st = some (ls', st')) (g : z_J Z mX6_rightsFor R k n Q 16 ls' st' h) : z_J Z mX6_rightsFor R k n Q 15 ls st h := z_jr bX6_rightsFor_15 bX6_rightsFor_15_ok hr g
theorem dX6_rightsFor_16 : decode cX6_rightsFor 16 = .ok (.getfield 7, 3) := by decide +kernel
theorem iX6_rightsFor_16 (hh : h r = some (a, .inr (7, fs))) (hv : fs[2]? = some v) (g : z_J Z mX6_rightsFor R k n Q 19 ls (v :: st) h) : z_J Z mX6_rightsFor R k n Q 16 ls (.ref a :: st) h := z_get dX6_rightsFor_16 rfl fl_X6_7 hh hv g
def bX6_rightsFor_19 : zB := [(19, .iload 5, 21, nI 0)]
theorem bX6_rightsFor_19_ok : z_ok cX6_rightsFor 19 bX6_rightsFor_19 21 = true := by decide +kernel
theorem iX6_rightsFor_19 (hr : z_run 7 bX6_rightsFor_19 ls st = some (ls', st')) (g : z_J Z mX6_rightsFor R k n Q 21 ls' st' h) : z_J Z mX6_rightsFor R k n Q 19 ls st h := z_jr bX6_rightsFor_19 bX6_rightsFor_19_ok hr g
theorem dX6_rightsFor_21 : decode cX6_rightsFor 21 = .ok (.iaload, 1) := by decide +kernel
theorem iX6_rightsFor_21 {f : Nat → Int32} (hh : h r = some (a, .inl (0, N, .inl f))) (hi : i = nI j) (hj : j < N) (hN : N < 2 ^ 31) (g : z_J Z mX6_rightsFor R k n Q 22 ls (.int (f j) :: st) h) : z_J Z mX6_rightsFor R k n Q 21 ls (.int i :: .ref a :: st) h := z_iald dX6_rightsFor_21 rfl hh hi hj hN g
def bX6_rightsFor_22 : zB := [(22, .iload_n 2, 23, nI 0), (23, .ishr, 24, nI 0), (24, .iconst 1, 25, nI 1), (25, .iand, 26, nI 0), (26, .iconst 1, 27, nI 1)]
theorem bX6_rightsFor_22_ok : z_ok cX6_rightsFor 22 bX6_rightsFor_22 27 = true := by decide +kernel
theorem iX6_rightsFor_22 (hr : z_run 7 bX6_rightsFor_22 ls st = some (ls', st')) (g : z_J Z mX6_rightsFor R k n Q 27 ls' st' h) : z_J Z mX6_rightsFor R k n Q 22 ls st h := z_jr bX6_rightsFor_22 bX6_rightsFor_22_ok hr g
theorem dX6_rightsFor_27 : decode cX6_rightsFor 27 = .ok (.if_icmp .ne 39, 3) := by decide +kernel
theorem iX6_rightsFor_27 (kt : ¬ x = y → z_J Z mX6_rightsFor R k n Q 66 ls st h) (kf : x = y → z_J Z mX6_rightsFor R k n Q 30 ls st h) : z_J Z mX6_rightsFor R k n Q 27 ls (.int y :: .int x :: st) h := z_ic_ne dX6_rightsFor_27 (tgt := 66) (by decide) rfl kt kf
def bX6_rightsFor_30 : zB := [(30, .aload_n 0, 31, nI 0)]
theorem bX6_rightsFor_30_ok : z_ok cX6_rightsFor 30 bX6_rightsFor_30 31 = true := by decide +kernel
theorem iX6_rightsFor_30 (hr : z_run 7 bX6_rightsFor_30 ls st = some (ls', st')) (g : z_J Z mX6_rightsFor R k n Q 31 ls' st' h) : z_J Z mX6_rightsFor R k n Q 30 ls st h := z_jr bX6_rightsFor_30 bX6_rightsFor_30_ok hr g
theorem dX6_rightsFor_31 : decode cX6_rightsFor 31 = .ok (.getfield 13, 3) := by decide +kernel
theorem iX6_rightsFor_31 (hh : h r = some (a, .inr (7, fs))) (hv : fs[3]? = some v) (g : z_J Z mX6_rightsFor R k n Q 34 ls (v :: st) h) : z_J Z mX6_rightsFor R k n Q 31 ls (.ref a :: st) h := z_get dX6_rightsFor_31 rfl fl_X6_13 hh hv g
def bX6_rightsFor_34 : zB := [(34, .iload 5, 36, nI 0)]
theorem bX6_rightsFor_34_ok : z_ok cX6_rightsFor 34 bX6_rightsFor_34 36 = true := by decide +kernel
theorem iX6_rightsFor_34 (hr : z_run 7 bX6_rightsFor_34 ls st = some (ls', st')) (g : z_J Z mX6_rightsFor R k n Q 36 ls' st' h) : z_J Z mX6_rightsFor R k n Q 34 ls st h := z_jr bX6_rightsFor_34 bX6_rightsFor_34_ok hr g
theorem dX6_rightsFor_36 : decode cX6_rightsFor 36 = .ok (.iaload, 1) := by decide +kernel
theorem iX6_rightsFor_36 {f : Nat → Int32} (hh : h r = some (a, .inl (0, N, .inl f))) (hi : i = nI j) (hj : j < N) (hN : N < 2 ^ 31) (g : z_J Z mX6_rightsFor R k n Q 37 ls (.int (f j) :: st) h) : z_J Z mX6_rightsFor R k n Q 36 ls (.int i :: .ref a :: st) h := z_iald dX6_rightsFor_36 rfl hh hi hj hN g
def bX6_rightsFor_37 : zB := [(37, .iload_n 3, 38, nI 0)]
theorem bX6_rightsFor_37_ok : z_ok cX6_rightsFor 37 bX6_rightsFor_37 38 = true := by decide +kernel
theorem iX6_rightsFor_37 (hr : z_run 7 bX6_rightsFor_37 ls st = some (ls', st')) (g : z_J Z mX6_rightsFor R k n Q 38 ls' st' h) : z_J Z mX6_rightsFor R k n Q 37 ls st h := z_jr bX6_rightsFor_37 bX6_rightsFor_37_ok hr g
theorem dX6_rightsFor_38 : decode cX6_rightsFor 38 = .ok (.if_icmp .lt 28, 3) := by decide +kernel
theorem iX6_rightsFor_38 (kt : x < y → z_J Z mX6_rightsFor R k n Q 66 ls st h) (kf : ¬ x < y → z_J Z mX6_rightsFor R k n Q 41 ls st h) : z_J Z mX6_rightsFor R k n Q 38 ls (.int y :: .int x :: st) h := z_ic_lt dX6_rightsFor_38 (tgt := 66) (by decide) rfl kt kf
def bX6_rightsFor_41 : zB := [(41, .iload_n 1, 42, nI 0), (42, .aload_n 0, 43, nI 0)]
theorem bX6_rightsFor_41_ok : z_ok cX6_rightsFor 41 bX6_rightsFor_41 43 = true := by decide +kernel
theorem iX6_rightsFor_41 (hr : z_run 7 bX6_rightsFor_41 ls st = some (ls', st')) (g : z_J Z mX6_rightsFor R k n Q 43 ls' st' h) : z_J Z mX6_rightsFor R k n Q 41 ls st h := z_jr bX6_rightsFor_41 bX6_rightsFor_41_ok hr g
theorem dX6_rightsFor_43 : decode cX6_rightsFor 43 = .ok (.getfield 19, 3) := by decide +kernel
theorem iX6_rightsFor_43 (hh : h r = some (a, .inr (7, fs))) (hv : fs[5]? = some v) (g : z_J Z mX6_rightsFor R k n Q 46 ls (v :: st) h) : z_J Z mX6_rightsFor R k n Q 43 ls (.ref a :: st) h := z_get dX6_rightsFor_43 rfl fl_X6_19 hh hv g
def bX6_rightsFor_46 : zB := [(46, .iload 5, 48, nI 0)]
theorem bX6_rightsFor_46_ok : z_ok cX6_rightsFor 46 bX6_rightsFor_46 48 = true := by decide +kernel
theorem iX6_rightsFor_46 (hr : z_run 7 bX6_rightsFor_46 ls st = some (ls', st')) (g : z_J Z mX6_rightsFor R k n Q 48 ls' st' h) : z_J Z mX6_rightsFor R k n Q 46 ls st h := z_jr bX6_rightsFor_46 bX6_rightsFor_46_ok hr g
theorem dX6_rightsFor_48 : decode cX6_rightsFor 48 = .ok (.iaload, 1) := by decide +kernel
theorem iX6_rightsFor_48 {f : Nat → Int32} (hh : h r = some (a, .inl (0, N, .inl f))) (hi : i = nI j) (hj : j < N) (hN : N < 2 ^ 31) (g : z_J Z mX6_rightsFor R k n Q 49 ls (.int (f j) :: st) h) : z_J Z mX6_rightsFor R k n Q 48 ls (.int i :: .ref a :: st) h := z_iald dX6_rightsFor_48 rfl hh hi hj hN g
def bX6_rightsFor_49 : zB := [(49, .aload_n 0, 50, nI 0)]
theorem bX6_rightsFor_49_ok : z_ok cX6_rightsFor 49 bX6_rightsFor_49 50 = true := by decide +kernel
theorem iX6_rightsFor_49 (hr : z_run 7 bX6_rightsFor_49 ls st = some (ls', st')) (g : z_J Z mX6_rightsFor R k n Q 50 ls' st' h) : z_J Z mX6_rightsFor R k n Q 49 ls st h := z_jr bX6_rightsFor_49 bX6_rightsFor_49_ok hr g
theorem dX6_rightsFor_50 : decode cX6_rightsFor 50 = .ok (.getfield 22, 3) := by decide +kernel
theorem iX6_rightsFor_50 (hh : h r = some (a, .inr (7, fs))) (hv : fs[6]? = some v) (g : z_J Z mX6_rightsFor R k n Q 53 ls (v :: st) h) : z_J Z mX6_rightsFor R k n Q 50 ls (.ref a :: st) h := z_get dX6_rightsFor_50 rfl fl_X6_22 hh hv g
def bX6_rightsFor_53 : zB := [(53, .iload 5, 55, nI 0)]
theorem bX6_rightsFor_53_ok : z_ok cX6_rightsFor 53 bX6_rightsFor_53 55 = true := by decide +kernel
theorem iX6_rightsFor_53 (hr : z_run 7 bX6_rightsFor_53 ls st = some (ls', st')) (g : z_J Z mX6_rightsFor R k n Q 55 ls' st' h) : z_J Z mX6_rightsFor R k n Q 53 ls st h := z_jr bX6_rightsFor_53 bX6_rightsFor_53_ok hr g
theorem dX6_rightsFor_55 : decode cX6_rightsFor 55 = .ok (.iaload, 1) := by decide +kernel
theorem iX6_rightsFor_55 {f : Nat → Int32} (hh : h r = some (a, .inl (0, N, .inl f))) (hi : i = nI j) (hj : j < N) (hN : N < 2 ^ 31) (g : z_J Z mX6_rightsFor R k n Q 56 ls (.int (f j) :: st) h) : z_J Z mX6_rightsFor R k n Q 55 ls (.int i :: .ref a :: st) h := z_iald dX6_rightsFor_55 rfl hh hi hj hN g
theorem dX6_rightsFor_56 : decode cX6_rightsFor 56 = .ok (.invokestatic 72, 3) := by decide +kernel
theorem iX6_rightsFor_56 (ha : z_args 3 st [] = some (As, rest)) (hc : z_chk rest As 3 = true) (hR : z_rm R R' 3 k n) (gc : z_J Z mX6_in R' 0 0 Q' 0 As [] h) (kr : ∀ (v : Option Value) (h' : zH), Q' (.inl v) h' → z_J Z mX6_rightsFor R (k + R'.cells) (n + R'.slots) Q 59 ls (v.toList ++ rest) h') (kx : ∀ (E : String) (h' : zH), Q' (.inr E) h' → z_JX Z mX6_rightsFor R (k + R'.cells) (n + R'.slots) Q 56 ls E h') : z_J Z mX6_rightsFor R k n Q 56 ls st h := z_callS (M' := mX6_in) dX6_rightsFor_56 rfl cs_X6_72 gw801 ha hR (z_chk1 hc) (z_chk2 hc) (z_chk3 hc) gc kr kx
theorem dX6_rightsFor_59 : decode cX6_rightsFor 59 = .ok (.ifCond .eq 7, 3) := by decide +kernel
theorem iX6_rightsFor_59 (kt : x = 0 → z_J Z mX6_rightsFor R k n Q 66 ls st h) (kf : ¬ x = 0 → z_J Z mX6_rightsFor R k n Q 62 ls st h) : z_J Z mX6_rightsFor R k n Q 59 ls (.int x :: st) h := z_if_eq dX6_rightsFor_59 (tgt := 66) (by decide) rfl kt kf
def bX6_rightsFor_62 : zB := [(62, .iconst 1, 63, nI 1), (63, .goto 4, 67, nI 0)]
theorem bX6_rightsFor_62_ok : z_ok cX6_rightsFor 62 bX6_rightsFor_62 67 = true := by decide +kernel
theorem iX6_rightsFor_62 (hr : z_run 7 bX6_rightsFor_62 ls st = some (ls', st')) (g : z_J Z mX6_rightsFor R k n Q 67 ls' st' h) : z_J Z mX6_rightsFor R k n Q 62 ls st h := z_jr bX6_rightsFor_62 bX6_rightsFor_62_ok hr g
def bX6_rightsFor_66 : zB := [(66, .iconst 0, 67, nI 0)]
theorem bX6_rightsFor_66_ok : z_ok cX6_rightsFor 66 bX6_rightsFor_66 67 = true := by decide +kernel
theorem iX6_rightsFor_66 (hr : z_run 7 bX6_rightsFor_66 ls st = some (ls', st')) (g : z_J Z mX6_rightsFor R k n Q 67 ls' st' h) : z_J Z mX6_rightsFor R k n Q 66 ls st h := z_jr bX6_rightsFor_66 bX6_rightsFor_66_ok hr g
def bX6_rightsFor_67 : zB := [(67, .istore 6, 69, nI 0), (69, .iload 4, 71, nI 0), (71, .iload 6, 73, nI 0)]
theorem bX6_rightsFor_67_ok : z_ok cX6_rightsFor 67 bX6_rightsFor_67 73 = true := by decide +kernel
theorem iX6_rightsFor_67 (hr : z_run 7 bX6_rightsFor_67 ls st = some (ls', st')) (g : z_J Z mX6_rightsFor R k n Q 73 ls' st' h) : z_J Z mX6_rightsFor R k n Q 67 ls st h := z_jr bX6_rightsFor_67 bX6_rightsFor_67_ok hr g
theorem dX6_rightsFor_73 : decode cX6_rightsFor 73 = .ok (.ifCond .eq 10, 3) := by decide +kernel
theorem iX6_rightsFor_73 (kt : x = 0 → z_J Z mX6_rightsFor R k n Q 83 ls st h) (kf : ¬ x = 0 → z_J Z mX6_rightsFor R k n Q 76 ls st h) : z_J Z mX6_rightsFor R k n Q 73 ls (.int x :: st) h := z_if_eq dX6_rightsFor_73 (tgt := 83) (by decide) rfl kt kf
def bX6_rightsFor_76 : zB := [(76, .iconst 1, 77, nI 1), (77, .iload 5, 79, nI 0), (79, .ishl, 80, nI 0), (80, .goto 4, 84, nI 0)]
theorem bX6_rightsFor_76_ok : z_ok cX6_rightsFor 76 bX6_rightsFor_76 84 = true := by decide +kernel
theorem iX6_rightsFor_76 (hr : z_run 7 bX6_rightsFor_76 ls st = some (ls', st')) (g : z_J Z mX6_rightsFor R k n Q 84 ls' st' h) : z_J Z mX6_rightsFor R k n Q 76 ls st h := z_jr bX6_rightsFor_76 bX6_rightsFor_76_ok hr g
def bX6_rightsFor_83 : zB := [(83, .iconst 0, 84, nI 0)]
theorem bX6_rightsFor_83_ok : z_ok cX6_rightsFor 83 bX6_rightsFor_83 84 = true := by decide +kernel
theorem iX6_rightsFor_83 (hr : z_run 7 bX6_rightsFor_83 ls st = some (ls', st')) (g : z_J Z mX6_rightsFor R k n Q 84 ls' st' h) : z_J Z mX6_rightsFor R k n Q 83 ls st h := z_jr bX6_rightsFor_83 bX6_rightsFor_83_ok hr g
def bX6_rightsFor_84 : zB := [(84, .ior, 85, nI 0), (85, .istore 4, 87, nI 0), (87, .iinc 5 1, 90, nI 1), (90, .goto (-84), 6, nI 0)]
theorem bX6_rightsFor_84_ok : z_ok cX6_rightsFor 84 bX6_rightsFor_84 6 = true := by decide +kernel
theorem iX6_rightsFor_84 (hr : z_run 7 bX6_rightsFor_84 ls st = some (ls', st')) (g : z_J Z mX6_rightsFor R k n Q 6 ls' st' h) : z_J Z mX6_rightsFor R k n Q 84 ls st h := z_jr bX6_rightsFor_84 bX6_rightsFor_84_ok hr g
def bX6_rightsFor_93 : zB := [(93, .iload 4, 95, nI 0)]
theorem bX6_rightsFor_93_ok : z_ok cX6_rightsFor 93 bX6_rightsFor_93 95 = true := by decide +kernel
theorem iX6_rightsFor_93 (hr : z_run 7 bX6_rightsFor_93 ls st = some (ls', st')) (g : z_J Z mX6_rightsFor R k n Q 95 ls' st' h) : z_J Z mX6_rightsFor R k n Q 93 ls st h := z_jr bX6_rightsFor_93 bX6_rightsFor_93_ok hr g
theorem dX6_rightsFor_95 : decode cX6_rightsFor 95 = .ok (.ireturn, 1) := by decide +kernel
theorem iX6_rightsFor_95 (hk : k ≤ R.cells) (hs : n ≤ R.slots) (hq : Q (.inl (some (.int x))) h) : z_J Z mX6_rightsFor R k n Q 95 ls [.int x] h := z_iret (ty := .int) dX6_rightsFor_95 rfl rfl hk hs hq
/-! X6_beginsCut -/
def bX6_beginsCut_0 : zB := [(0, .iconst 0, 1, nI 0), (1, .istore_n 1, 2, nI 0)]
theorem bX6_beginsCut_0_ok : z_ok cX6_beginsCut 0 bX6_beginsCut_0 2 = true := by decide +kernel
theorem iX6_beginsCut_0 (hr : z_run 3 bX6_beginsCut_0 ls st = some (ls', st')) (g : z_J Z mX6_beginsCut R k n Q 2 ls' st' h) : z_J Z mX6_beginsCut R k n Q 0 ls st h := z_jr bX6_beginsCut_0 bX6_beginsCut_0_ok hr g
def bX6_beginsCut_2 : zB := [(2, .iload_n 1, 3, nI 0), (3, .iconst 1, 4, nI 1), (4, .aload_n 0, 5, nI 0)]
theorem bX6_beginsCut_2_ok : z_ok cX6_beginsCut 2 bX6_beginsCut_2 5 = true := by decide +kernel
theorem iX6_beginsCut_2 (hr : z_run 3 bX6_beginsCut_2 ls st = some (ls', st')) (g : z_J Z mX6_beginsCut R k n Q 5 ls' st' h) : z_J Z mX6_beginsCut R k n Q 2 ls st h := z_jr bX6_beginsCut_2 bX6_beginsCut_2_ok hr g
theorem dX6_beginsCut_5 : decode cX6_beginsCut 5 = .ok (.getfield 79, 3) := by decide +kernel
theorem iX6_beginsCut_5 (hh : h r = some (a, .inr (7, fs))) (hv : fs[1]? = some v) (g : z_J Z mX6_beginsCut R k n Q 8 ls (v :: st) h) : z_J Z mX6_beginsCut R k n Q 5 ls (.ref a :: st) h := z_get dX6_beginsCut_5 rfl fl_X6_79 hh hv g
def bX6_beginsCut_8 : zB := [(8, .ishl, 9, nI 0)]
theorem bX6_beginsCut_8_ok : z_ok cX6_beginsCut 8 bX6_beginsCut_8 9 = true := by decide +kernel
theorem iX6_beginsCut_8 (hr : z_run 3 bX6_beginsCut_8 ls st = some (ls', st')) (g : z_J Z mX6_beginsCut R k n Q 9 ls' st' h) : z_J Z mX6_beginsCut R k n Q 8 ls st h := z_jr bX6_beginsCut_8 bX6_beginsCut_8_ok hr g
theorem dX6_beginsCut_9 : decode cX6_beginsCut 9 = .ok (.if_icmp .ge 60, 3) := by decide +kernel
theorem iX6_beginsCut_9 (kt : y ≤ x → z_J Z mX6_beginsCut R k n Q 69 ls st h) (kf : ¬ y ≤ x → z_J Z mX6_beginsCut R k n Q 12 ls st h) : z_J Z mX6_beginsCut R k n Q 9 ls (.int y :: .int x :: st) h := z_ic_ge dX6_beginsCut_9 (tgt := 69) (by decide) rfl kt kf
def bX6_beginsCut_12 : zB := [(12, .aload_n 0, 13, nI 0)]
theorem bX6_beginsCut_12_ok : z_ok cX6_beginsCut 12 bX6_beginsCut_12 13 = true := by decide +kernel
theorem iX6_beginsCut_12 (hr : z_run 3 bX6_beginsCut_12 ls st = some (ls', st')) (g : z_J Z mX6_beginsCut R k n Q 13 ls' st' h) : z_J Z mX6_beginsCut R k n Q 12 ls st h := z_jr bX6_beginsCut_12 bX6_beginsCut_12_ok hr g
theorem dX6_beginsCut_13 : decode cX6_beginsCut 13 = .ok (.getfield 65, 3) := by decide +kernel
theorem iX6_beginsCut_13 (hh : h r = some (a, .inr (7, fs))) (hv : fs[22]? = some v) (g : z_J Z mX6_beginsCut R k n Q 16 ls (v :: st) h) : z_J Z mX6_beginsCut R k n Q 13 ls (.ref a :: st) h := z_get dX6_beginsCut_13 rfl fl_X6_65 hh hv g
def bX6_beginsCut_16 : zB := [(16, .iload_n 1, 17, nI 0), (17, .iconst 0, 18, nI 0)]
theorem bX6_beginsCut_16_ok : z_ok cX6_beginsCut 16 bX6_beginsCut_16 18 = true := by decide +kernel
theorem iX6_beginsCut_16 (hr : z_run 3 bX6_beginsCut_16 ls st = some (ls', st')) (g : z_J Z mX6_beginsCut R k n Q 18 ls' st' h) : z_J Z mX6_beginsCut R k n Q 16 ls st h := z_jr bX6_beginsCut_16 bX6_beginsCut_16_ok hr g
theorem dX6_beginsCut_18 : decode cX6_beginsCut 18 = .ok (.iastore, 1) := by decide +kernel
theorem iX6_beginsCut_18 {f : Nat → Int32} (hh : h r = some (a, .inl (0, N, .inl f))) (hi : i = nI j) (hj : j < N) (hN : N < 2 ^ 31) (g : z_J Z mX6_beginsCut R k n Q 19 ls st (z_u h r (a, .inl (0, N, .inl (upd f j x))))) : z_J Z mX6_beginsCut R k n Q 18 ls (.int x :: .int i :: .ref a :: st) h := z_iast dX6_beginsCut_18 rfl hh hi hj hN g
def bX6_beginsCut_19 : zB := [(19, .iconst 0, 20, nI 0), (20, .istore_n 2, 21, nI 0)]
theorem bX6_beginsCut_19_ok : z_ok cX6_beginsCut 19 bX6_beginsCut_19 21 = true := by decide +kernel
theorem iX6_beginsCut_19 (hr : z_run 3 bX6_beginsCut_19 ls st = some (ls', st')) (g : z_J Z mX6_beginsCut R k n Q 21 ls' st' h) : z_J Z mX6_beginsCut R k n Q 19 ls st h := z_jr bX6_beginsCut_19 bX6_beginsCut_19_ok hr g
def bX6_beginsCut_21 : zB := [(21, .iload_n 2, 22, nI 0), (22, .aload_n 0, 23, nI 0)]
theorem bX6_beginsCut_21_ok : z_ok cX6_beginsCut 21 bX6_beginsCut_21 23 = true := by decide +kernel
theorem iX6_beginsCut_21 (hr : z_run 3 bX6_beginsCut_21 ls st = some (ls', st')) (g : z_J Z mX6_beginsCut R k n Q 23 ls' st' h) : z_J Z mX6_beginsCut R k n Q 21 ls st h := z_jr bX6_beginsCut_21 bX6_beginsCut_21_ok hr g
theorem dX6_beginsCut_23 : decode cX6_beginsCut 23 = .ok (.getfield 79, 3) := by decide +kernel
theorem iX6_beginsCut_23 (hh : h r = some (a, .inr (7, fs))) (hv : fs[1]? = some v) (g : z_J Z mX6_beginsCut R k n Q 26 ls (v :: st) h) : z_J Z mX6_beginsCut R k n Q 23 ls (.ref a :: st) h := z_get dX6_beginsCut_23 rfl fl_X6_79 hh hv g
theorem dX6_beginsCut_26 : decode cX6_beginsCut 26 = .ok (.if_icmp .ge 37, 3) := by decide +kernel
theorem iX6_beginsCut_26 (kt : y ≤ x → z_J Z mX6_beginsCut R k n Q 63 ls st h) (kf : ¬ y ≤ x → z_J Z mX6_beginsCut R k n Q 29 ls st h) : z_J Z mX6_beginsCut R k n Q 26 ls (.int y :: .int x :: st) h := z_ic_ge dX6_beginsCut_26 (tgt := 63) (by decide) rfl kt kf
def bX6_beginsCut_29 : zB := [(29, .aload_n 0, 30, nI 0)]
theorem bX6_beginsCut_29_ok : z_ok cX6_beginsCut 29 bX6_beginsCut_29 30 = true := by decide +kernel
theorem iX6_beginsCut_29 (hr : z_run 3 bX6_beginsCut_29 ls st = some (ls', st')) (g : z_J Z mX6_beginsCut R k n Q 30 ls' st' h) : z_J Z mX6_beginsCut R k n Q 29 ls st h := z_jr bX6_beginsCut_29 bX6_beginsCut_29_ok hr g
theorem dX6_beginsCut_30 : decode cX6_beginsCut 30 = .ok (.getfield 65, 3) := by decide +kernel
theorem iX6_beginsCut_30 (hh : h r = some (a, .inr (7, fs))) (hv : fs[22]? = some v) (g : z_J Z mX6_beginsCut R k n Q 33 ls (v :: st) h) : z_J Z mX6_beginsCut R k n Q 30 ls (.ref a :: st) h := z_get dX6_beginsCut_30 rfl fl_X6_65 hh hv g
def bX6_beginsCut_33 : zB := [(33, .iload_n 1, 34, nI 0), (34, .dup2, 35, nI 0)]
theorem bX6_beginsCut_33_ok : z_ok cX6_beginsCut 33 bX6_beginsCut_33 35 = true := by decide +kernel
theorem iX6_beginsCut_33 (hr : z_run 3 bX6_beginsCut_33 ls st = some (ls', st')) (g : z_J Z mX6_beginsCut R k n Q 35 ls' st' h) : z_J Z mX6_beginsCut R k n Q 33 ls st h := z_jr bX6_beginsCut_33 bX6_beginsCut_33_ok hr g
theorem dX6_beginsCut_35 : decode cX6_beginsCut 35 = .ok (.iaload, 1) := by decide +kernel
theorem iX6_beginsCut_35 {f : Nat → Int32} (hh : h r = some (a, .inl (0, N, .inl f))) (hi : i = nI j) (hj : j < N) (hN : N < 2 ^ 31) (g : z_J Z mX6_beginsCut R k n Q 36 ls (.int (f j) :: st) h) : z_J Z mX6_beginsCut R k n Q 35 ls (.int i :: .ref a :: st) h := z_iald dX6_beginsCut_35 rfl hh hi hj hN g
def bX6_beginsCut_36 : zB := [(36, .iload_n 1, 37, nI 0), (37, .iload_n 2, 38, nI 0), (38, .ishr, 39, nI 0), (39, .iconst 1, 40, nI 1), (40, .iand, 41, nI 0), (41, .iconst 1, 42, nI 1)]
theorem bX6_beginsCut_36_ok : z_ok cX6_beginsCut 36 bX6_beginsCut_36 42 = true := by decide +kernel
theorem iX6_beginsCut_36 (hr : z_run 3 bX6_beginsCut_36 ls st = some (ls', st')) (g : z_J Z mX6_beginsCut R k n Q 42 ls' st' h) : z_J Z mX6_beginsCut R k n Q 36 ls st h := z_jr bX6_beginsCut_36 bX6_beginsCut_36_ok hr g
theorem dX6_beginsCut_42 : decode cX6_beginsCut 42 = .ok (.if_icmp .ne 12, 3) := by decide +kernel
theorem iX6_beginsCut_42 (kt : ¬ x = y → z_J Z mX6_beginsCut R k n Q 54 ls st h) (kf : x = y → z_J Z mX6_beginsCut R k n Q 45 ls st h) : z_J Z mX6_beginsCut R k n Q 42 ls (.int y :: .int x :: st) h := z_ic_ne dX6_beginsCut_42 (tgt := 54) (by decide) rfl kt kf
def bX6_beginsCut_45 : zB := [(45, .aload_n 0, 46, nI 0)]
theorem bX6_beginsCut_45_ok : z_ok cX6_beginsCut 45 bX6_beginsCut_45 46 = true := by decide +kernel
theorem iX6_beginsCut_45 (hr : z_run 3 bX6_beginsCut_45 ls st = some (ls', st')) (g : z_J Z mX6_beginsCut R k n Q 46 ls' st' h) : z_J Z mX6_beginsCut R k n Q 45 ls st h := z_jr bX6_beginsCut_45 bX6_beginsCut_45_ok hr g
theorem dX6_beginsCut_46 : decode cX6_beginsCut 46 = .ok (.getfield 16, 3) := by decide +kernel
theorem iX6_beginsCut_46 (hh : h r = some (a, .inr (7, fs))) (hv : fs[4]? = some v) (g : z_J Z mX6_beginsCut R k n Q 49 ls (v :: st) h) : z_J Z mX6_beginsCut R k n Q 46 ls (.ref a :: st) h := z_get dX6_beginsCut_46 rfl fl_X6_16 hh hv g
def bX6_beginsCut_49 : zB := [(49, .iload_n 2, 50, nI 0)]
theorem bX6_beginsCut_49_ok : z_ok cX6_beginsCut 49 bX6_beginsCut_49 50 = true := by decide +kernel
theorem iX6_beginsCut_49 (hr : z_run 3 bX6_beginsCut_49 ls st = some (ls', st')) (g : z_J Z mX6_beginsCut R k n Q 50 ls' st' h) : z_J Z mX6_beginsCut R k n Q 49 ls st h := z_jr bX6_beginsCut_49 bX6_beginsCut_49_ok hr g
theorem dX6_beginsCut_50 : decode cX6_beginsCut 50 = .ok (.iaload, 1) := by decide +kernel
theorem iX6_beginsCut_50 {f : Nat → Int32} (hh : h r = some (a, .inl (0, N, .inl f))) (hi : i = nI j) (hj : j < N) (hN : N < 2 ^ 31) (g : z_J Z mX6_beginsCut R k n Q 51 ls (.int (f j) :: st) h) : z_J Z mX6_beginsCut R k n Q 50 ls (.int i :: .ref a :: st) h := z_iald dX6_beginsCut_50 rfl hh hi hj hN g
def bX6_beginsCut_51 : zB := [(51, .goto 4, 55, nI 0)]
theorem bX6_beginsCut_51_ok : z_ok cX6_beginsCut 51 bX6_beginsCut_51 55 = true := by decide +kernel
theorem iX6_beginsCut_51 (hr : z_run 3 bX6_beginsCut_51 ls st = some (ls', st')) (g : z_J Z mX6_beginsCut R k n Q 55 ls' st' h) : z_J Z mX6_beginsCut R k n Q 51 ls st h := z_jr bX6_beginsCut_51 bX6_beginsCut_51_ok hr g
def bX6_beginsCut_54 : zB := [(54, .iconst 0, 55, nI 0)]
theorem bX6_beginsCut_54_ok : z_ok cX6_beginsCut 54 bX6_beginsCut_54 55 = true := by decide +kernel
theorem iX6_beginsCut_54 (hr : z_run 3 bX6_beginsCut_54 ls st = some (ls', st')) (g : z_J Z mX6_beginsCut R k n Q 55 ls' st' h) : z_J Z mX6_beginsCut R k n Q 54 ls st h := z_jr bX6_beginsCut_54 bX6_beginsCut_54_ok hr g
def bX6_beginsCut_55 : zB := [(55, .iadd, 56, nI 0)]
theorem bX6_beginsCut_55_ok : z_ok cX6_beginsCut 55 bX6_beginsCut_55 56 = true := by decide +kernel
theorem iX6_beginsCut_55 (hr : z_run 3 bX6_beginsCut_55 ls st = some (ls', st')) (g : z_J Z mX6_beginsCut R k n Q 56 ls' st' h) : z_J Z mX6_beginsCut R k n Q 55 ls st h := z_jr bX6_beginsCut_55 bX6_beginsCut_55_ok hr g
theorem dX6_beginsCut_56 : decode cX6_beginsCut 56 = .ok (.iastore, 1) := by decide +kernel
theorem iX6_beginsCut_56 {f : Nat → Int32} (hh : h r = some (a, .inl (0, N, .inl f))) (hi : i = nI j) (hj : j < N) (hN : N < 2 ^ 31) (g : z_J Z mX6_beginsCut R k n Q 57 ls st (z_u h r (a, .inl (0, N, .inl (upd f j x))))) : z_J Z mX6_beginsCut R k n Q 56 ls (.int x :: .int i :: .ref a :: st) h := z_iast dX6_beginsCut_56 rfl hh hi hj hN g
def bX6_beginsCut_57 : zB := [(57, .iinc 2 1, 60, nI 1), (60, .goto (-39), 21, nI 0)]
theorem bX6_beginsCut_57_ok : z_ok cX6_beginsCut 57 bX6_beginsCut_57 21 = true := by decide +kernel
theorem iX6_beginsCut_57 (hr : z_run 3 bX6_beginsCut_57 ls st = some (ls', st')) (g : z_J Z mX6_beginsCut R k n Q 21 ls' st' h) : z_J Z mX6_beginsCut R k n Q 57 ls st h := z_jr bX6_beginsCut_57 bX6_beginsCut_57_ok hr g
def bX6_beginsCut_63 : zB := [(63, .iinc 1 1, 66, nI 1), (66, .goto (-64), 2, nI 0)]
theorem bX6_beginsCut_63_ok : z_ok cX6_beginsCut 63 bX6_beginsCut_63 2 = true := by decide +kernel
theorem iX6_beginsCut_63 (hr : z_run 3 bX6_beginsCut_63 ls st = some (ls', st')) (g : z_J Z mX6_beginsCut R k n Q 2 ls' st' h) : z_J Z mX6_beginsCut R k n Q 63 ls st h := z_jr bX6_beginsCut_63 bX6_beginsCut_63_ok hr g
theorem dX6_beginsCut_69 : decode cX6_beginsCut 69 = .ok (.return_, 1) := by decide +kernel
theorem iX6_beginsCut_69 (hk : k ≤ R.cells) (hs : n ≤ R.slots) (hq : Q (.inl none) h) : z_J Z mX6_beginsCut R k n Q 69 ls [] h := z_vret dX6_beginsCut_69 rfl hk hs hq
/-! X6_leastCut -/
def bX6_leastCut_0 : zB := [(0, .aload_n 0, 1, nI 0)]
theorem bX6_leastCut_0_ok : z_ok cX6_leastCut 0 bX6_leastCut_0 1 = true := by decide +kernel
theorem iX6_leastCut_0 (hr : z_run 3 bX6_leastCut_0 ls st = some (ls', st')) (g : z_J Z mX6_leastCut R k n Q 1 ls' st' h) : z_J Z mX6_leastCut R k n Q 0 ls st h := z_jr bX6_leastCut_0 bX6_leastCut_0_ok hr g
theorem dX6_leastCut_1 : decode cX6_leastCut 1 = .ok (.getfield 65, 3) := by decide +kernel
theorem iX6_leastCut_1 (hh : h r = some (a, .inr (7, fs))) (hv : fs[22]? = some v) (g : z_J Z mX6_leastCut R k n Q 4 ls (v :: st) h) : z_J Z mX6_leastCut R k n Q 1 ls (.ref a :: st) h := z_get dX6_leastCut_1 rfl fl_X6_65 hh hv g
def bX6_leastCut_4 : zB := [(4, .iconst 0, 5, nI 0)]
theorem bX6_leastCut_4_ok : z_ok cX6_leastCut 4 bX6_leastCut_4 5 = true := by decide +kernel
theorem iX6_leastCut_4 (hr : z_run 3 bX6_leastCut_4 ls st = some (ls', st')) (g : z_J Z mX6_leastCut R k n Q 5 ls' st' h) : z_J Z mX6_leastCut R k n Q 4 ls st h := z_jr bX6_leastCut_4 bX6_leastCut_4_ok hr g
theorem dX6_leastCut_5 : decode cX6_leastCut 5 = .ok (.iaload, 1) := by decide +kernel
theorem iX6_leastCut_5 {f : Nat → Int32} (hh : h r = some (a, .inl (0, N, .inl f))) (hi : i = nI j) (hj : j < N) (hN : N < 2 ^ 31) (g : z_J Z mX6_leastCut R k n Q 6 ls (.int (f j) :: st) h) : z_J Z mX6_leastCut R k n Q 5 ls (.int i :: .ref a :: st) h := z_iald dX6_leastCut_5 rfl hh hi hj hN g
def bX6_leastCut_6 : zB := [(6, .istore_n 1, 7, nI 0), (7, .iconst 1, 8, nI 1), (8, .istore_n 2, 9, nI 0)]
theorem bX6_leastCut_6_ok : z_ok cX6_leastCut 6 bX6_leastCut_6 9 = true := by decide +kernel
theorem iX6_leastCut_6 (hr : z_run 3 bX6_leastCut_6 ls st = some (ls', st')) (g : z_J Z mX6_leastCut R k n Q 9 ls' st' h) : z_J Z mX6_leastCut R k n Q 6 ls st h := z_jr bX6_leastCut_6 bX6_leastCut_6_ok hr g
def bX6_leastCut_9 : zB := [(9, .iload_n 2, 10, nI 0), (10, .iconst 1, 11, nI 1), (11, .aload_n 0, 12, nI 0)]
theorem bX6_leastCut_9_ok : z_ok cX6_leastCut 9 bX6_leastCut_9 12 = true := by decide +kernel
theorem iX6_leastCut_9 (hr : z_run 3 bX6_leastCut_9 ls st = some (ls', st')) (g : z_J Z mX6_leastCut R k n Q 12 ls' st' h) : z_J Z mX6_leastCut R k n Q 9 ls st h := z_jr bX6_leastCut_9 bX6_leastCut_9_ok hr g
theorem dX6_leastCut_12 : decode cX6_leastCut 12 = .ok (.getfield 79, 3) := by decide +kernel
theorem iX6_leastCut_12 (hh : h r = some (a, .inr (7, fs))) (hv : fs[1]? = some v) (g : z_J Z mX6_leastCut R k n Q 15 ls (v :: st) h) : z_J Z mX6_leastCut R k n Q 12 ls (.ref a :: st) h := z_get dX6_leastCut_12 rfl fl_X6_79 hh hv g
def bX6_leastCut_15 : zB := [(15, .ishl, 16, nI 0)]
theorem bX6_leastCut_15_ok : z_ok cX6_leastCut 15 bX6_leastCut_15 16 = true := by decide +kernel
theorem iX6_leastCut_15 (hr : z_run 3 bX6_leastCut_15 ls st = some (ls', st')) (g : z_J Z mX6_leastCut R k n Q 16 ls' st' h) : z_J Z mX6_leastCut R k n Q 15 ls st h := z_jr bX6_leastCut_15 bX6_leastCut_15_ok hr g
theorem dX6_leastCut_16 : decode cX6_leastCut 16 = .ok (.if_icmp .ge 30, 3) := by decide +kernel
theorem iX6_leastCut_16 (kt : y ≤ x → z_J Z mX6_leastCut R k n Q 46 ls st h) (kf : ¬ y ≤ x → z_J Z mX6_leastCut R k n Q 19 ls st h) : z_J Z mX6_leastCut R k n Q 16 ls (.int y :: .int x :: st) h := z_ic_ge dX6_leastCut_16 (tgt := 46) (by decide) rfl kt kf
def bX6_leastCut_19 : zB := [(19, .aload_n 0, 20, nI 0)]
theorem bX6_leastCut_19_ok : z_ok cX6_leastCut 19 bX6_leastCut_19 20 = true := by decide +kernel
theorem iX6_leastCut_19 (hr : z_run 3 bX6_leastCut_19 ls st = some (ls', st')) (g : z_J Z mX6_leastCut R k n Q 20 ls' st' h) : z_J Z mX6_leastCut R k n Q 19 ls st h := z_jr bX6_leastCut_19 bX6_leastCut_19_ok hr g
theorem dX6_leastCut_20 : decode cX6_leastCut 20 = .ok (.getfield 65, 3) := by decide +kernel
theorem iX6_leastCut_20 (hh : h r = some (a, .inr (7, fs))) (hv : fs[22]? = some v) (g : z_J Z mX6_leastCut R k n Q 23 ls (v :: st) h) : z_J Z mX6_leastCut R k n Q 20 ls (.ref a :: st) h := z_get dX6_leastCut_20 rfl fl_X6_65 hh hv g
def bX6_leastCut_23 : zB := [(23, .iload_n 2, 24, nI 0)]
theorem bX6_leastCut_23_ok : z_ok cX6_leastCut 23 bX6_leastCut_23 24 = true := by decide +kernel
theorem iX6_leastCut_23 (hr : z_run 3 bX6_leastCut_23 ls st = some (ls', st')) (g : z_J Z mX6_leastCut R k n Q 24 ls' st' h) : z_J Z mX6_leastCut R k n Q 23 ls st h := z_jr bX6_leastCut_23 bX6_leastCut_23_ok hr g
theorem dX6_leastCut_24 : decode cX6_leastCut 24 = .ok (.iaload, 1) := by decide +kernel
theorem iX6_leastCut_24 {f : Nat → Int32} (hh : h r = some (a, .inl (0, N, .inl f))) (hi : i = nI j) (hj : j < N) (hN : N < 2 ^ 31) (g : z_J Z mX6_leastCut R k n Q 25 ls (.int (f j) :: st) h) : z_J Z mX6_leastCut R k n Q 24 ls (.int i :: .ref a :: st) h := z_iald dX6_leastCut_24 rfl hh hi hj hN g
def bX6_leastCut_25 : zB := [(25, .iload_n 1, 26, nI 0)]
theorem bX6_leastCut_25_ok : z_ok cX6_leastCut 25 bX6_leastCut_25 26 = true := by decide +kernel
theorem iX6_leastCut_25 (hr : z_run 3 bX6_leastCut_25 ls st = some (ls', st')) (g : z_J Z mX6_leastCut R k n Q 26 ls' st' h) : z_J Z mX6_leastCut R k n Q 25 ls st h := z_jr bX6_leastCut_25 bX6_leastCut_25_ok hr g
theorem dX6_leastCut_26 : decode cX6_leastCut 26 = .ok (.if_icmp .ge 12, 3) := by decide +kernel
theorem iX6_leastCut_26 (kt : y ≤ x → z_J Z mX6_leastCut R k n Q 38 ls st h) (kf : ¬ y ≤ x → z_J Z mX6_leastCut R k n Q 29 ls st h) : z_J Z mX6_leastCut R k n Q 26 ls (.int y :: .int x :: st) h := z_ic_ge dX6_leastCut_26 (tgt := 38) (by decide) rfl kt kf
def bX6_leastCut_29 : zB := [(29, .aload_n 0, 30, nI 0)]
theorem bX6_leastCut_29_ok : z_ok cX6_leastCut 29 bX6_leastCut_29 30 = true := by decide +kernel
theorem iX6_leastCut_29 (hr : z_run 3 bX6_leastCut_29 ls st = some (ls', st')) (g : z_J Z mX6_leastCut R k n Q 30 ls' st' h) : z_J Z mX6_leastCut R k n Q 29 ls st h := z_jr bX6_leastCut_29 bX6_leastCut_29_ok hr g
theorem dX6_leastCut_30 : decode cX6_leastCut 30 = .ok (.getfield 65, 3) := by decide +kernel
theorem iX6_leastCut_30 (hh : h r = some (a, .inr (7, fs))) (hv : fs[22]? = some v) (g : z_J Z mX6_leastCut R k n Q 33 ls (v :: st) h) : z_J Z mX6_leastCut R k n Q 30 ls (.ref a :: st) h := z_get dX6_leastCut_30 rfl fl_X6_65 hh hv g
def bX6_leastCut_33 : zB := [(33, .iload_n 2, 34, nI 0)]
theorem bX6_leastCut_33_ok : z_ok cX6_leastCut 33 bX6_leastCut_33 34 = true := by decide +kernel
theorem iX6_leastCut_33 (hr : z_run 3 bX6_leastCut_33 ls st = some (ls', st')) (g : z_J Z mX6_leastCut R k n Q 34 ls' st' h) : z_J Z mX6_leastCut R k n Q 33 ls st h := z_jr bX6_leastCut_33 bX6_leastCut_33_ok hr g
theorem dX6_leastCut_34 : decode cX6_leastCut 34 = .ok (.iaload, 1) := by decide +kernel
theorem iX6_leastCut_34 {f : Nat → Int32} (hh : h r = some (a, .inl (0, N, .inl f))) (hi : i = nI j) (hj : j < N) (hN : N < 2 ^ 31) (g : z_J Z mX6_leastCut R k n Q 35 ls (.int (f j) :: st) h) : z_J Z mX6_leastCut R k n Q 34 ls (.int i :: .ref a :: st) h := z_iald dX6_leastCut_34 rfl hh hi hj hN g
def bX6_leastCut_35 : zB := [(35, .goto 4, 39, nI 0)]
theorem bX6_leastCut_35_ok : z_ok cX6_leastCut 35 bX6_leastCut_35 39 = true := by decide +kernel
theorem iX6_leastCut_35 (hr : z_run 3 bX6_leastCut_35 ls st = some (ls', st')) (g : z_J Z mX6_leastCut R k n Q 39 ls' st' h) : z_J Z mX6_leastCut R k n Q 35 ls st h := z_jr bX6_leastCut_35 bX6_leastCut_35_ok hr g
def bX6_leastCut_38 : zB := [(38, .iload_n 1, 39, nI 0)]
theorem bX6_leastCut_38_ok : z_ok cX6_leastCut 38 bX6_leastCut_38 39 = true := by decide +kernel
theorem iX6_leastCut_38 (hr : z_run 3 bX6_leastCut_38 ls st = some (ls', st')) (g : z_J Z mX6_leastCut R k n Q 39 ls' st' h) : z_J Z mX6_leastCut R k n Q 38 ls st h := z_jr bX6_leastCut_38 bX6_leastCut_38_ok hr g
def bX6_leastCut_39 : zB := [(39, .istore_n 1, 40, nI 0), (40, .iinc 2 1, 43, nI 1), (43, .goto (-34), 9, nI 0)]
theorem bX6_leastCut_39_ok : z_ok cX6_leastCut 39 bX6_leastCut_39 9 = true := by decide +kernel
theorem iX6_leastCut_39 (hr : z_run 3 bX6_leastCut_39 ls st = some (ls', st')) (g : z_J Z mX6_leastCut R k n Q 9 ls' st' h) : z_J Z mX6_leastCut R k n Q 39 ls st h := z_jr bX6_leastCut_39 bX6_leastCut_39_ok hr g
def bX6_leastCut_46 : zB := [(46, .iload_n 1, 47, nI 0)]
theorem bX6_leastCut_46_ok : z_ok cX6_leastCut 46 bX6_leastCut_46 47 = true := by decide +kernel
theorem iX6_leastCut_46 (hr : z_run 3 bX6_leastCut_46 ls st = some (ls', st')) (g : z_J Z mX6_leastCut R k n Q 47 ls' st' h) : z_J Z mX6_leastCut R k n Q 46 ls st h := z_jr bX6_leastCut_46 bX6_leastCut_46_ok hr g
theorem dX6_leastCut_47 : decode cX6_leastCut 47 = .ok (.ireturn, 1) := by decide +kernel
theorem iX6_leastCut_47 (hk : k ≤ R.cells) (hs : n ≤ R.slots) (hq : Q (.inl (some (.int x))) h) : z_J Z mX6_leastCut R k n Q 47 ls [.int x] h := z_iret (ty := .int) dX6_leastCut_47 rfl rfl hk hs hq
/-! X6_serves -/
def bX6_serves_0 : zB := [(0, .iconst 0, 1, nI 0), (1, .istore_n 3, 2, nI 0)]
theorem bX6_serves_0_ok : z_ok cX6_serves 0 bX6_serves_0 2 = true := by decide +kernel
theorem iX6_serves_0 (hr : z_run 4 bX6_serves_0 ls st = some (ls', st')) (g : z_J Z mX6_serves R k n Q 2 ls' st' h) : z_J Z mX6_serves R k n Q 0 ls st h := z_jr bX6_serves_0 bX6_serves_0_ok hr g
def bX6_serves_2 : zB := [(2, .iload_n 3, 3, nI 0), (3, .iconst 1, 4, nI 1), (4, .aload_n 0, 5, nI 0)]
theorem bX6_serves_2_ok : z_ok cX6_serves 2 bX6_serves_2 5 = true := by decide +kernel
theorem iX6_serves_2 (hr : z_run 4 bX6_serves_2 ls st = some (ls', st')) (g : z_J Z mX6_serves R k n Q 5 ls' st' h) : z_J Z mX6_serves R k n Q 2 ls st h := z_jr bX6_serves_2 bX6_serves_2_ok hr g
theorem dX6_serves_5 : decode cX6_serves 5 = .ok (.getfield 79, 3) := by decide +kernel
theorem iX6_serves_5 (hh : h r = some (a, .inr (7, fs))) (hv : fs[1]? = some v) (g : z_J Z mX6_serves R k n Q 8 ls (v :: st) h) : z_J Z mX6_serves R k n Q 5 ls (.ref a :: st) h := z_get dX6_serves_5 rfl fl_X6_79 hh hv g
def bX6_serves_8 : zB := [(8, .ishl, 9, nI 0)]
theorem bX6_serves_8_ok : z_ok cX6_serves 8 bX6_serves_8 9 = true := by decide +kernel
theorem iX6_serves_8 (hr : z_run 4 bX6_serves_8 ls st = some (ls', st')) (g : z_J Z mX6_serves R k n Q 9 ls' st' h) : z_J Z mX6_serves R k n Q 8 ls st h := z_jr bX6_serves_8 bX6_serves_8_ok hr g
theorem dX6_serves_9 : decode cX6_serves 9 = .ok (.if_icmp .ge 31, 3) := by decide +kernel
theorem iX6_serves_9 (kt : y ≤ x → z_J Z mX6_serves R k n Q 40 ls st h) (kf : ¬ y ≤ x → z_J Z mX6_serves R k n Q 12 ls st h) : z_J Z mX6_serves R k n Q 9 ls (.int y :: .int x :: st) h := z_ic_ge dX6_serves_9 (tgt := 40) (by decide) rfl kt kf
def bX6_serves_12 : zB := [(12, .aload_n 0, 13, nI 0)]
theorem bX6_serves_12_ok : z_ok cX6_serves 12 bX6_serves_12 13 = true := by decide +kernel
theorem iX6_serves_12 (hr : z_run 4 bX6_serves_12 ls st = some (ls', st')) (g : z_J Z mX6_serves R k n Q 13 ls' st' h) : z_J Z mX6_serves R k n Q 12 ls st h := z_jr bX6_serves_12 bX6_serves_12_ok hr g
theorem dX6_serves_13 : decode cX6_serves 13 = .ok (.getfield 65, 3) := by decide +kernel
theorem iX6_serves_13 (hh : h r = some (a, .inr (7, fs))) (hv : fs[22]? = some v) (g : z_J Z mX6_serves R k n Q 16 ls (v :: st) h) : z_J Z mX6_serves R k n Q 13 ls (.ref a :: st) h := z_get dX6_serves_13 rfl fl_X6_65 hh hv g
def bX6_serves_16 : zB := [(16, .iload_n 3, 17, nI 0), (17, .dup2, 18, nI 0)]
theorem bX6_serves_16_ok : z_ok cX6_serves 16 bX6_serves_16 18 = true := by decide +kernel
theorem iX6_serves_16 (hr : z_run 4 bX6_serves_16 ls st = some (ls', st')) (g : z_J Z mX6_serves R k n Q 18 ls' st' h) : z_J Z mX6_serves R k n Q 16 ls st h := z_jr bX6_serves_16 bX6_serves_16_ok hr g
theorem dX6_serves_18 : decode cX6_serves 18 = .ok (.iaload, 1) := by decide +kernel
theorem iX6_serves_18 {f : Nat → Int32} (hh : h r = some (a, .inl (0, N, .inl f))) (hi : i = nI j) (hj : j < N) (hN : N < 2 ^ 31) (g : z_J Z mX6_serves R k n Q 19 ls (.int (f j) :: st) h) : z_J Z mX6_serves R k n Q 18 ls (.int i :: .ref a :: st) h := z_iald dX6_serves_18 rfl hh hi hj hN g
def bX6_serves_19 : zB := [(19, .iload_n 1, 20, nI 0), (20, .iload_n 3, 21, nI 0), (21, .iconst (-1), 22, -1), (22, .ixor, 23, nI 0), (23, .iand, 24, nI 0)]
theorem bX6_serves_19_ok : z_ok cX6_serves 19 bX6_serves_19 24 = true := by decide +kernel
theorem iX6_serves_19 (hr : z_run 4 bX6_serves_19 ls st = some (ls', st')) (g : z_J Z mX6_serves R k n Q 24 ls' st' h) : z_J Z mX6_serves R k n Q 19 ls st h := z_jr bX6_serves_19 bX6_serves_19_ok hr g
theorem dX6_serves_24 : decode cX6_serves 24 = .ok (.ifCond .eq 7, 3) := by decide +kernel
theorem iX6_serves_24 (kt : x = 0 → z_J Z mX6_serves R k n Q 31 ls st h) (kf : ¬ x = 0 → z_J Z mX6_serves R k n Q 27 ls st h) : z_J Z mX6_serves R k n Q 24 ls (.int x :: st) h := z_if_eq dX6_serves_24 (tgt := 31) (by decide) rfl kt kf
def bX6_serves_27 : zB := [(27, .iload_n 2, 28, nI 0), (28, .goto 4, 32, nI 0)]
theorem bX6_serves_27_ok : z_ok cX6_serves 27 bX6_serves_27 32 = true := by decide +kernel
theorem iX6_serves_27 (hr : z_run 4 bX6_serves_27 ls st = some (ls', st')) (g : z_J Z mX6_serves R k n Q 32 ls' st' h) : z_J Z mX6_serves R k n Q 27 ls st h := z_jr bX6_serves_27 bX6_serves_27_ok hr g
def bX6_serves_31 : zB := [(31, .iconst 0, 32, nI 0)]
theorem bX6_serves_31_ok : z_ok cX6_serves 31 bX6_serves_31 32 = true := by decide +kernel
theorem iX6_serves_31 (hr : z_run 4 bX6_serves_31 ls st = some (ls', st')) (g : z_J Z mX6_serves R k n Q 32 ls' st' h) : z_J Z mX6_serves R k n Q 31 ls st h := z_jr bX6_serves_31 bX6_serves_31_ok hr g
def bX6_serves_32 : zB := [(32, .iadd, 33, nI 0)]
theorem bX6_serves_32_ok : z_ok cX6_serves 32 bX6_serves_32 33 = true := by decide +kernel
theorem iX6_serves_32 (hr : z_run 4 bX6_serves_32 ls st = some (ls', st')) (g : z_J Z mX6_serves R k n Q 33 ls' st' h) : z_J Z mX6_serves R k n Q 32 ls st h := z_jr bX6_serves_32 bX6_serves_32_ok hr g
theorem dX6_serves_33 : decode cX6_serves 33 = .ok (.iastore, 1) := by decide +kernel
theorem iX6_serves_33 {f : Nat → Int32} (hh : h r = some (a, .inl (0, N, .inl f))) (hi : i = nI j) (hj : j < N) (hN : N < 2 ^ 31) (g : z_J Z mX6_serves R k n Q 34 ls st (z_u h r (a, .inl (0, N, .inl (upd f j x))))) : z_J Z mX6_serves R k n Q 33 ls (.int x :: .int i :: .ref a :: st) h := z_iast dX6_serves_33 rfl hh hi hj hN g
def bX6_serves_34 : zB := [(34, .iinc 3 1, 37, nI 1), (37, .goto (-35), 2, nI 0)]
theorem bX6_serves_34_ok : z_ok cX6_serves 34 bX6_serves_34 2 = true := by decide +kernel
theorem iX6_serves_34 (hr : z_run 4 bX6_serves_34 ls st = some (ls', st')) (g : z_J Z mX6_serves R k n Q 2 ls' st' h) : z_J Z mX6_serves R k n Q 34 ls st h := z_jr bX6_serves_34 bX6_serves_34_ok hr g
def bX6_serves_40 : zB := [(40, .aload_n 0, 41, nI 0)]
theorem bX6_serves_40_ok : z_ok cX6_serves 40 bX6_serves_40 41 = true := by decide +kernel
theorem iX6_serves_40 (hr : z_run 4 bX6_serves_40 ls st = some (ls', st')) (g : z_J Z mX6_serves R k n Q 41 ls' st' h) : z_J Z mX6_serves R k n Q 40 ls st h := z_jr bX6_serves_40 bX6_serves_40_ok hr g
theorem dX6_serves_41 : decode cX6_serves 41 = .ok (.invokevirtual 116, 3) := by decide +kernel
theorem iX6_serves_41 (ha : z_args 0 st [] = some (As, .ref b :: rest)) (hc : z_chk rest (.ref b :: As) 3 = true) (hh : h r = some (b, .inr (7, fs))) (hR : z_rm R R' 3 k n) (gc : z_J Z mX6_leastCut R' 0 0 Q' 0 (.ref b :: As) [] h) (kr : ∀ (v : Option Value) (h' : zH), Q' (.inl v) h' → z_J Z mX6_serves R (k + R'.cells) (n + R'.slots) Q 44 ls (v.toList ++ rest) h') (kx : ∀ (E : String) (h' : zH), Q' (.inr E) h' → z_JX Z mX6_serves R (k + R'.cells) (n + R'.slots) Q 41 ls E h') : z_J Z mX6_serves R k n Q 41 ls st h := z_callV (M' := mX6_leastCut) dX6_serves_41 rfl cs_X6_116 rfl gw922 gwp29 ha hh (ci := 7) rfl hR (z_chk1 hc) (z_chk2 hc) (z_chk3 hc) gc kr kx
theorem dX6_serves_44 : decode cX6_serves 44 = .ok (.ireturn, 1) := by decide +kernel
theorem iX6_serves_44 (hk : k ≤ R.cells) (hs : n ≤ R.slots) (hq : Q (.inl (some (.int x))) h) : z_J Z mX6_serves R k n Q 44 ls [.int x] h := z_iret (ty := .int) dX6_serves_44 rfl rfl hk hs hq
/-! X6_laysGets -/
def bX6_laysGets_0 : zB := [(0, .aload_n 0, 1, nI 0), (1, .iload_n 1, 2, nI 0)]
theorem bX6_laysGets_0_ok : z_ok cX6_laysGets 0 bX6_laysGets_0 2 = true := by decide +kernel
theorem iX6_laysGets_0 (hr : z_run 5 bX6_laysGets_0 ls st = some (ls', st')) (g : z_J Z mX6_laysGets R k n Q 2 ls' st' h) : z_J Z mX6_laysGets R k n Q 0 ls st h := z_jr bX6_laysGets_0 bX6_laysGets_0_ok hr g
theorem dX6_laysGets_2 : decode cX6_laysGets 2 = .ok (.invokevirtual 120, 3) := by decide +kernel
theorem iX6_laysGets_2 (ha : z_args 1 st [] = some (As, .ref b :: rest)) (hc : z_chk rest (.ref b :: As) 7 = true) (hh : h r = some (b, .inr (7, fs))) (hR : z_rm R R' 7 k n) (gc : z_J Z mX6_laysNeeds R' 0 0 Q' 0 (.ref b :: As) [] h) (kr : ∀ (v : Option Value) (h' : zH), Q' (.inl v) h' → z_J Z mX6_laysGets R (k + R'.cells) (n + R'.slots) Q 5 ls (v.toList ++ rest) h') (kx : ∀ (E : String) (h' : zH), Q' (.inr E) h' → z_JX Z mX6_laysGets R (k + R'.cells) (n + R'.slots) Q 2 ls E h') : z_J Z mX6_laysGets R k n Q 2 ls st h := z_callV (M' := mX6_laysNeeds) dX6_laysGets_2 rfl cs_X6_120 rfl gw886 gwp23 ha hh (ci := 7) rfl hR (z_chk1 hc) (z_chk2 hc) (z_chk3 hc) gc kr kx
def bX6_laysGets_5 : zB := [(5, .aload_n 0, 6, nI 0)]
theorem bX6_laysGets_5_ok : z_ok cX6_laysGets 5 bX6_laysGets_5 6 = true := by decide +kernel
theorem iX6_laysGets_5 (hr : z_run 5 bX6_laysGets_5 ls st = some (ls', st')) (g : z_J Z mX6_laysGets R k n Q 6 ls' st' h) : z_J Z mX6_laysGets R k n Q 5 ls st h := z_jr bX6_laysGets_5 bX6_laysGets_5_ok hr g
theorem dX6_laysGets_6 : decode cX6_laysGets 6 = .ok (.invokevirtual 124, 3) := by decide +kernel
theorem iX6_laysGets_6 (ha : z_args 0 st [] = some (As, .ref b :: rest)) (hc : z_chk rest (.ref b :: As) 3 = true) (hh : h r = some (b, .inr (7, fs))) (hR : z_rm R R' 3 k n) (gc : z_J Z mX6_beginsCut R' 0 0 Q' 0 (.ref b :: As) [] h) (kr : ∀ (v : Option Value) (h' : zH), Q' (.inl v) h' → z_J Z mX6_laysGets R (k + R'.cells) (n + R'.slots) Q 9 ls (v.toList ++ rest) h') (kx : ∀ (E : String) (h' : zH), Q' (.inr E) h' → z_JX Z mX6_laysGets R (k + R'.cells) (n + R'.slots) Q 6 ls E h') : z_J Z mX6_laysGets R k n Q 6 ls st h := z_callV (M' := mX6_beginsCut) dX6_laysGets_6 rfl cs_X6_124 rfl gw910 gwp26 ha hh (ci := 7) rfl hR (z_chk1 hc) (z_chk2 hc) (z_chk3 hc) gc kr kx
def bX6_laysGets_9 : zB := [(9, .iconst 0, 10, nI 0), (10, .istore_n 2, 11, nI 0), (11, .iconst 0, 12, nI 0), (12, .istore_n 3, 13, nI 0)]
theorem bX6_laysGets_9_ok : z_ok cX6_laysGets 9 bX6_laysGets_9 13 = true := by decide +kernel
theorem iX6_laysGets_9 (hr : z_run 5 bX6_laysGets_9 ls st = some (ls', st')) (g : z_J Z mX6_laysGets R k n Q 13 ls' st' h) : z_J Z mX6_laysGets R k n Q 9 ls st h := z_jr bX6_laysGets_9 bX6_laysGets_9_ok hr g
def bX6_laysGets_13 : zB := [(13, .iload_n 3, 14, nI 0), (14, .aload_n 0, 15, nI 0)]
theorem bX6_laysGets_13_ok : z_ok cX6_laysGets 13 bX6_laysGets_13 15 = true := by decide +kernel
theorem iX6_laysGets_13 (hr : z_run 5 bX6_laysGets_13 ls st = some (ls', st')) (g : z_J Z mX6_laysGets R k n Q 15 ls' st' h) : z_J Z mX6_laysGets R k n Q 13 ls st h := z_jr bX6_laysGets_13 bX6_laysGets_13_ok hr g
theorem dX6_laysGets_15 : decode cX6_laysGets 15 = .ok (.getfield 113, 3) := by decide +kernel
theorem iX6_laysGets_15 (hh : h r = some (a, .inr (7, fs))) (hv : fs[16]? = some v) (g : z_J Z mX6_laysGets R k n Q 18 ls (v :: st) h) : z_J Z mX6_laysGets R k n Q 15 ls (.ref a :: st) h := z_get dX6_laysGets_15 rfl fl_X6_113 hh hv g
theorem dX6_laysGets_18 : decode cX6_laysGets 18 = .ok (.if_icmp .ge 51, 3) := by decide +kernel
theorem iX6_laysGets_18 (kt : y ≤ x → z_J Z mX6_laysGets R k n Q 69 ls st h) (kf : ¬ y ≤ x → z_J Z mX6_laysGets R k n Q 21 ls st h) : z_J Z mX6_laysGets R k n Q 18 ls (.int y :: .int x :: st) h := z_ic_ge dX6_laysGets_18 (tgt := 69) (by decide) rfl kt kf
def bX6_laysGets_21 : zB := [(21, .aload_n 0, 22, nI 0), (22, .aload_n 0, 23, nI 0), (23, .iload_n 1, 24, nI 0), (24, .aload_n 0, 25, nI 0)]
theorem bX6_laysGets_21_ok : z_ok cX6_laysGets 21 bX6_laysGets_21 25 = true := by decide +kernel
theorem iX6_laysGets_21 (hr : z_run 5 bX6_laysGets_21 ls st = some (ls', st')) (g : z_J Z mX6_laysGets R k n Q 25 ls' st' h) : z_J Z mX6_laysGets R k n Q 21 ls st h := z_jr bX6_laysGets_21 bX6_laysGets_21_ok hr g
theorem dX6_laysGets_25 : decode cX6_laysGets 25 = .ok (.getfield 53, 3) := by decide +kernel
theorem iX6_laysGets_25 (hh : h r = some (a, .inr (7, fs))) (hv : fs[18]? = some v) (g : z_J Z mX6_laysGets R k n Q 28 ls (v :: st) h) : z_J Z mX6_laysGets R k n Q 25 ls (.ref a :: st) h := z_get dX6_laysGets_25 rfl fl_X6_53 hh hv g
def bX6_laysGets_28 : zB := [(28, .iload_n 3, 29, nI 0)]
theorem bX6_laysGets_28_ok : z_ok cX6_laysGets 28 bX6_laysGets_28 29 = true := by decide +kernel
theorem iX6_laysGets_28 (hr : z_run 5 bX6_laysGets_28 ls st = some (ls', st')) (g : z_J Z mX6_laysGets R k n Q 29 ls' st' h) : z_J Z mX6_laysGets R k n Q 28 ls st h := z_jr bX6_laysGets_28 bX6_laysGets_28_ok hr g
theorem dX6_laysGets_29 : decode cX6_laysGets 29 = .ok (.iaload, 1) := by decide +kernel
theorem iX6_laysGets_29 {f : Nat → Int32} (hh : h r = some (a, .inl (0, N, .inl f))) (hi : i = nI j) (hj : j < N) (hN : N < 2 ^ 31) (g : z_J Z mX6_laysGets R k n Q 30 ls (.int (f j) :: st) h) : z_J Z mX6_laysGets R k n Q 29 ls (.int i :: .ref a :: st) h := z_iald dX6_laysGets_29 rfl hh hi hj hN g
def bX6_laysGets_30 : zB := [(30, .aload_n 0, 31, nI 0)]
theorem bX6_laysGets_30_ok : z_ok cX6_laysGets 30 bX6_laysGets_30 31 = true := by decide +kernel
theorem iX6_laysGets_30 (hr : z_run 5 bX6_laysGets_30 ls st = some (ls', st')) (g : z_J Z mX6_laysGets R k n Q 31 ls' st' h) : z_J Z mX6_laysGets R k n Q 30 ls st h := z_jr bX6_laysGets_30 bX6_laysGets_30_ok hr g
theorem dX6_laysGets_31 : decode cX6_laysGets 31 = .ok (.getfield 56, 3) := by decide +kernel
theorem iX6_laysGets_31 (hh : h r = some (a, .inr (7, fs))) (hv : fs[19]? = some v) (g : z_J Z mX6_laysGets R k n Q 34 ls (v :: st) h) : z_J Z mX6_laysGets R k n Q 31 ls (.ref a :: st) h := z_get dX6_laysGets_31 rfl fl_X6_56 hh hv g
def bX6_laysGets_34 : zB := [(34, .iload_n 3, 35, nI 0)]
theorem bX6_laysGets_34_ok : z_ok cX6_laysGets 34 bX6_laysGets_34 35 = true := by decide +kernel
theorem iX6_laysGets_34 (hr : z_run 5 bX6_laysGets_34 ls st = some (ls', st')) (g : z_J Z mX6_laysGets R k n Q 35 ls' st' h) : z_J Z mX6_laysGets R k n Q 34 ls st h := z_jr bX6_laysGets_34 bX6_laysGets_34_ok hr g
theorem dX6_laysGets_35 : decode cX6_laysGets 35 = .ok (.iaload, 1) := by decide +kernel
theorem iX6_laysGets_35 {f : Nat → Int32} (hh : h r = some (a, .inl (0, N, .inl f))) (hi : i = nI j) (hj : j < N) (hN : N < 2 ^ 31) (g : z_J Z mX6_laysGets R k n Q 36 ls (.int (f j) :: st) h) : z_J Z mX6_laysGets R k n Q 35 ls (.int i :: .ref a :: st) h := z_iald dX6_laysGets_35 rfl hh hi hj hN g
theorem dX6_laysGets_36 : decode cX6_laysGets 36 = .ok (.invokevirtual 127, 3) := by decide +kernel
theorem iX6_laysGets_36 (ha : z_args 3 st [] = some (As, .ref b :: rest)) (hc : z_chk rest (.ref b :: As) 7 = true) (hh : h r = some (b, .inr (7, fs))) (hR : z_rm R R' 7 k n) (gc : z_J Z mX6_rightsFor R' 0 0 Q' 0 (.ref b :: As) [] h) (kr : ∀ (v : Option Value) (h' : zH), Q' (.inl v) h' → z_J Z mX6_laysGets R (k + R'.cells) (n + R'.slots) Q 39 ls (v.toList ++ rest) h') (kx : ∀ (E : String) (h' : zH), Q' (.inr E) h' → z_JX Z mX6_laysGets R (k + R'.cells) (n + R'.slots) Q 36 ls E h') : z_J Z mX6_laysGets R k n Q 36 ls st h := z_callV (M' := mX6_rightsFor) dX6_laysGets_36 rfl cs_X6_127 rfl gw914 gwp27 ha hh (ci := 7) rfl hR (z_chk1 hc) (z_chk2 hc) (z_chk3 hc) gc kr kx
def bX6_laysGets_39 : zB := [(39, .aload_n 0, 40, nI 0)]
theorem bX6_laysGets_39_ok : z_ok cX6_laysGets 39 bX6_laysGets_39 40 = true := by decide +kernel
theorem iX6_laysGets_39 (hr : z_run 5 bX6_laysGets_39 ls st = some (ls', st')) (g : z_J Z mX6_laysGets R k n Q 40 ls' st' h) : z_J Z mX6_laysGets R k n Q 39 ls st h := z_jr bX6_laysGets_39 bX6_laysGets_39_ok hr g
theorem dX6_laysGets_40 : decode cX6_laysGets 40 = .ok (.getfield 59, 3) := by decide +kernel
theorem iX6_laysGets_40 (hh : h r = some (a, .inr (7, fs))) (hv : fs[20]? = some v) (g : z_J Z mX6_laysGets R k n Q 43 ls (v :: st) h) : z_J Z mX6_laysGets R k n Q 40 ls (.ref a :: st) h := z_get dX6_laysGets_40 rfl fl_X6_59 hh hv g
def bX6_laysGets_43 : zB := [(43, .iload_n 3, 44, nI 0)]
theorem bX6_laysGets_43_ok : z_ok cX6_laysGets 43 bX6_laysGets_43 44 = true := by decide +kernel
theorem iX6_laysGets_43 (hr : z_run 5 bX6_laysGets_43 ls st = some (ls', st')) (g : z_J Z mX6_laysGets R k n Q 44 ls' st' h) : z_J Z mX6_laysGets R k n Q 43 ls st h := z_jr bX6_laysGets_43 bX6_laysGets_43_ok hr g
theorem dX6_laysGets_44 : decode cX6_laysGets 44 = .ok (.iaload, 1) := by decide +kernel
theorem iX6_laysGets_44 {f : Nat → Int32} (hh : h r = some (a, .inl (0, N, .inl f))) (hi : i = nI j) (hj : j < N) (hN : N < 2 ^ 31) (g : z_J Z mX6_laysGets R k n Q 45 ls (.int (f j) :: st) h) : z_J Z mX6_laysGets R k n Q 44 ls (.int i :: .ref a :: st) h := z_iald dX6_laysGets_44 rfl hh hi hj hN g
theorem dX6_laysGets_45 : decode cX6_laysGets 45 = .ok (.invokevirtual 131, 3) := by decide +kernel
theorem iX6_laysGets_45 (ha : z_args 2 st [] = some (As, .ref b :: rest)) (hc : z_chk rest (.ref b :: As) 4 = true) (hh : h r = some (b, .inr (7, fs))) (hR : z_rm R R' 4 k n) (gc : z_J Z mX6_serves R' 0 0 Q' 0 (.ref b :: As) [] h) (kr : ∀ (v : Option Value) (h' : zH), Q' (.inl v) h' → z_J Z mX6_laysGets R (k + R'.cells) (n + R'.slots) Q 48 ls (v.toList ++ rest) h') (kx : ∀ (E : String) (h' : zH), Q' (.inr E) h' → z_JX Z mX6_laysGets R (k + R'.cells) (n + R'.slots) Q 45 ls E h') : z_J Z mX6_laysGets R k n Q 45 ls st h := z_callV (M' := mX6_serves) dX6_laysGets_45 rfl cs_X6_131 rfl gw918 gwp28 ha hh (ci := 7) rfl hR (z_chk1 hc) (z_chk2 hc) (z_chk3 hc) gc kr kx
def bX6_laysGets_48 : zB := [(48, .istore 4, 50, nI 0), (50, .aload_n 0, 51, nI 0)]
theorem bX6_laysGets_48_ok : z_ok cX6_laysGets 48 bX6_laysGets_48 51 = true := by decide +kernel
theorem iX6_laysGets_48 (hr : z_run 5 bX6_laysGets_48 ls st = some (ls', st')) (g : z_J Z mX6_laysGets R k n Q 51 ls' st' h) : z_J Z mX6_laysGets R k n Q 48 ls st h := z_jr bX6_laysGets_48 bX6_laysGets_48_ok hr g
theorem dX6_laysGets_51 : decode cX6_laysGets 51 = .ok (.getfield 62, 3) := by decide +kernel
theorem iX6_laysGets_51 (hh : h r = some (a, .inr (7, fs))) (hv : fs[21]? = some v) (g : z_J Z mX6_laysGets R k n Q 54 ls (v :: st) h) : z_J Z mX6_laysGets R k n Q 51 ls (.ref a :: st) h := z_get dX6_laysGets_51 rfl fl_X6_62 hh hv g
def bX6_laysGets_54 : zB := [(54, .iload_n 3, 55, nI 0), (55, .iload 4, 57, nI 0), (57, .iload_n 2, 58, nI 0), (58, .isub, 59, nI 0)]
theorem bX6_laysGets_54_ok : z_ok cX6_laysGets 54 bX6_laysGets_54 59 = true := by decide +kernel
theorem iX6_laysGets_54 (hr : z_run 5 bX6_laysGets_54 ls st = some (ls', st')) (g : z_J Z mX6_laysGets R k n Q 59 ls' st' h) : z_J Z mX6_laysGets R k n Q 54 ls st h := z_jr bX6_laysGets_54 bX6_laysGets_54_ok hr g
theorem dX6_laysGets_59 : decode cX6_laysGets 59 = .ok (.iastore, 1) := by decide +kernel
theorem iX6_laysGets_59 {f : Nat → Int32} (hh : h r = some (a, .inl (0, N, .inl f))) (hi : i = nI j) (hj : j < N) (hN : N < 2 ^ 31) (g : z_J Z mX6_laysGets R k n Q 60 ls st (z_u h r (a, .inl (0, N, .inl (upd f j x))))) : z_J Z mX6_laysGets R k n Q 59 ls (.int x :: .int i :: .ref a :: st) h := z_iast dX6_laysGets_59 rfl hh hi hj hN g
def bX6_laysGets_60 : zB := [(60, .iload 4, 62, nI 0), (62, .istore_n 2, 63, nI 0), (63, .iinc 3 1, 66, nI 1), (66, .goto (-53), 13, nI 0)]
theorem bX6_laysGets_60_ok : z_ok cX6_laysGets 60 bX6_laysGets_60 13 = true := by decide +kernel
theorem iX6_laysGets_60 (hr : z_run 5 bX6_laysGets_60 ls st = some (ls', st')) (g : z_J Z mX6_laysGets R k n Q 13 ls' st' h) : z_J Z mX6_laysGets R k n Q 60 ls st h := z_jr bX6_laysGets_60 bX6_laysGets_60_ok hr g
def bX6_laysGets_69 : zB := [(69, .iload_n 2, 70, nI 0)]
theorem bX6_laysGets_69_ok : z_ok cX6_laysGets 69 bX6_laysGets_69 70 = true := by decide +kernel
theorem iX6_laysGets_69 (hr : z_run 5 bX6_laysGets_69 ls st = some (ls', st')) (g : z_J Z mX6_laysGets R k n Q 70 ls' st' h) : z_J Z mX6_laysGets R k n Q 69 ls st h := z_jr bX6_laysGets_69 bX6_laysGets_69_ok hr g
theorem dX6_laysGets_70 : decode cX6_laysGets 70 = .ok (.ireturn, 1) := by decide +kernel
theorem iX6_laysGets_70 (hk : k ≤ R.cells) (hs : n ≤ R.slots) (hq : Q (.inl (some (.int x))) h) : z_J Z mX6_laysGets R k n Q 70 ls [.int x] h := z_iret (ty := .int) dX6_laysGets_70 rfl rfl hk hs hq
/-! X6_needs -/
def bX6_needs_0 : zB := [(0, .aload_n 0, 1, nI 0), (1, .iload_n 1, 2, nI 0)]
theorem bX6_needs_0_ok : z_ok cX6_needs 0 bX6_needs_0 2 = true := by decide +kernel
theorem iX6_needs_0 (hr : z_run 2 bX6_needs_0 ls st = some (ls', st')) (g : z_J Z mX6_needs R k n Q 2 ls' st' h) : z_J Z mX6_needs R k n Q 0 ls st h := z_jr bX6_needs_0 bX6_needs_0_ok hr g
theorem dX6_needs_2 : decode cX6_needs 2 = .ok (.invokestatic 96, 3) := by decide +kernel
theorem iX6_needs_2 (ha : z_args 1 st [] = some (As, rest)) (hc : z_chk rest As 1 = true) (hR : z_rm R R' 1 k n) (gc : z_J Z mX6_isDay R' 0 0 Q' 0 As [] h) (kr : ∀ (v : Option Value) (h' : zH), Q' (.inl v) h' → z_J Z mX6_needs R (k + R'.cells) (n + R'.slots) Q 5 ls (v.toList ++ rest) h') (kx : ∀ (E : String) (h' : zH), Q' (.inr E) h' → z_JX Z mX6_needs R (k + R'.cells) (n + R'.slots) Q 2 ls E h') : z_J Z mX6_needs R k n Q 2 ls st h := z_callS (M' := mX6_isDay) dX6_needs_2 rfl cs_X6_96 gw855 ha hR (z_chk1 hc) (z_chk2 hc) (z_chk3 hc) gc kr kx
theorem dX6_needs_5 : decode cX6_needs 5 = .ok (.ifCond .eq 7, 3) := by decide +kernel
theorem iX6_needs_5 (kt : x = 0 → z_J Z mX6_needs R k n Q 12 ls st h) (kf : ¬ x = 0 → z_J Z mX6_needs R k n Q 8 ls st h) : z_J Z mX6_needs R k n Q 5 ls (.int x :: st) h := z_if_eq dX6_needs_5 (tgt := 12) (by decide) rfl kt kf
def bX6_needs_8 : zB := [(8, .iconst 0, 9, nI 0), (9, .goto 4, 13, nI 0)]
theorem bX6_needs_8_ok : z_ok cX6_needs 8 bX6_needs_8 13 = true := by decide +kernel
theorem iX6_needs_8 (hr : z_run 2 bX6_needs_8 ls st = some (ls', st')) (g : z_J Z mX6_needs R k n Q 13 ls' st' h) : z_J Z mX6_needs R k n Q 8 ls st h := z_jr bX6_needs_8 bX6_needs_8_ok hr g
def bX6_needs_12 : zB := [(12, .iconst 1, 13, nI 1)]
theorem bX6_needs_12_ok : z_ok cX6_needs 12 bX6_needs_12 13 = true := by decide +kernel
theorem iX6_needs_12 (hr : z_run 2 bX6_needs_12 ls st = some (ls', st')) (g : z_J Z mX6_needs R k n Q 13 ls' st' h) : z_J Z mX6_needs R k n Q 12 ls st h := z_jr bX6_needs_12 bX6_needs_12_ok hr g
theorem dX6_needs_13 : decode cX6_needs 13 = .ok (.putfield 68, 3) := by decide +kernel
theorem iX6_needs_13 (hh : h r = some (a, .inr (7, fs))) (hl : Nat.blt 0 fs.length = true) (g : z_J Z mX6_needs R k n Q 16 ls st (z_u h r (a, .inr (7, fs.set 0 (.int x))))) : z_J Z mX6_needs R k n Q 13 ls ((.int x) :: .ref a :: st) h := z_put dX6_needs_13 rfl fl_X6_68 fw_X6_0 rfl hh rfl rfl (by simpa [Nat.blt_eq] using hl) g
def bX6_needs_16 : zB := [(16, .aload_n 0, 17, nI 0)]
theorem bX6_needs_16_ok : z_ok cX6_needs 16 bX6_needs_16 17 = true := by decide +kernel
theorem iX6_needs_16 (hr : z_run 2 bX6_needs_16 ls st = some (ls', st')) (g : z_J Z mX6_needs R k n Q 17 ls' st' h) : z_J Z mX6_needs R k n Q 16 ls st h := z_jr bX6_needs_16 bX6_needs_16_ok hr g
theorem dX6_needs_17 : decode cX6_needs 17 = .ok (.getfield 68, 3) := by decide +kernel
theorem iX6_needs_17 (hh : h r = some (a, .inr (7, fs))) (hv : fs[0]? = some v) (g : z_J Z mX6_needs R k n Q 20 ls (v :: st) h) : z_J Z mX6_needs R k n Q 17 ls (.ref a :: st) h := z_get dX6_needs_17 rfl fl_X6_68 hh hv g
theorem dX6_needs_20 : decode cX6_needs 20 = .ok (.ifCond .le 5, 3) := by decide +kernel
theorem iX6_needs_20 (kt : x ≤ 0 → z_J Z mX6_needs R k n Q 25 ls st h) (kf : ¬ x ≤ 0 → z_J Z mX6_needs R k n Q 23 ls st h) : z_J Z mX6_needs R k n Q 20 ls (.int x :: st) h := z_if_le dX6_needs_20 (tgt := 25) (by decide) rfl kt kf
def bX6_needs_23 : zB := [(23, .iconst 0, 24, nI 0)]
theorem bX6_needs_23_ok : z_ok cX6_needs 23 bX6_needs_23 24 = true := by decide +kernel
theorem iX6_needs_23 (hr : z_run 2 bX6_needs_23 ls st = some (ls', st')) (g : z_J Z mX6_needs R k n Q 24 ls' st' h) : z_J Z mX6_needs R k n Q 23 ls st h := z_jr bX6_needs_23 bX6_needs_23_ok hr g
theorem dX6_needs_24 : decode cX6_needs 24 = .ok (.ireturn, 1) := by decide +kernel
theorem iX6_needs_24 (hk : k ≤ R.cells) (hs : n ≤ R.slots) (hq : Q (.inl (some (.int x))) h) : z_J Z mX6_needs R k n Q 24 ls [.int x] h := z_iret (ty := .int) dX6_needs_24 rfl rfl hk hs hq
def bX6_needs_25 : zB := [(25, .aload_n 0, 26, nI 0), (26, .iload_n 1, 27, nI 0)]
theorem bX6_needs_25_ok : z_ok cX6_needs 25 bX6_needs_25 27 = true := by decide +kernel
theorem iX6_needs_25 (hr : z_run 2 bX6_needs_25 ls st = some (ls', st')) (g : z_J Z mX6_needs R k n Q 27 ls' st' h) : z_J Z mX6_needs R k n Q 25 ls st h := z_jr bX6_needs_25 bX6_needs_25_ok hr g
theorem dX6_needs_27 : decode cX6_needs 27 = .ok (.invokevirtual 120, 3) := by decide +kernel
theorem iX6_needs_27 (ha : z_args 1 st [] = some (As, .ref b :: rest)) (hc : z_chk rest (.ref b :: As) 7 = true) (hh : h r = some (b, .inr (7, fs))) (hR : z_rm R R' 7 k n) (gc : z_J Z mX6_laysNeeds R' 0 0 Q' 0 (.ref b :: As) [] h) (kr : ∀ (v : Option Value) (h' : zH), Q' (.inl v) h' → z_J Z mX6_needs R (k + R'.cells) (n + R'.slots) Q 30 ls (v.toList ++ rest) h') (kx : ∀ (E : String) (h' : zH), Q' (.inr E) h' → z_JX Z mX6_needs R (k + R'.cells) (n + R'.slots) Q 27 ls E h') : z_J Z mX6_needs R k n Q 27 ls st h := z_callV (M' := mX6_laysNeeds) dX6_needs_27 rfl cs_X6_120 rfl gw886 gwp23 ha hh (ci := 7) rfl hR (z_chk1 hc) (z_chk2 hc) (z_chk3 hc) gc kr kx
def bX6_needs_30 : zB := [(30, .aload_n 0, 31, nI 0)]
theorem bX6_needs_30_ok : z_ok cX6_needs 30 bX6_needs_30 31 = true := by decide +kernel
theorem iX6_needs_30 (hr : z_run 2 bX6_needs_30 ls st = some (ls', st')) (g : z_J Z mX6_needs R k n Q 31 ls' st' h) : z_J Z mX6_needs R k n Q 30 ls st h := z_jr bX6_needs_30 bX6_needs_30_ok hr g
theorem dX6_needs_31 : decode cX6_needs 31 = .ok (.getfield 113, 3) := by decide +kernel
theorem iX6_needs_31 (hh : h r = some (a, .inr (7, fs))) (hv : fs[16]? = some v) (g : z_J Z mX6_needs R k n Q 34 ls (v :: st) h) : z_J Z mX6_needs R k n Q 31 ls (.ref a :: st) h := z_get dX6_needs_31 rfl fl_X6_113 hh hv g
theorem dX6_needs_34 : decode cX6_needs 34 = .ok (.ireturn, 1) := by decide +kernel
theorem iX6_needs_34 (hk : k ≤ R.cells) (hs : n ≤ R.slots) (hq : Q (.inl (some (.int x))) h) : z_J Z mX6_needs R k n Q 34 ls [.int x] h := z_iret (ty := .int) dX6_needs_34 rfl rfl hk hs hq
/-! X6_asks -/
def bX6_asks_0 : zB := [(0, .aload_n 0, 1, nI 0), (1, .iload_n 1, 2, nI 0)]
theorem bX6_asks_0_ok : z_ok cX6_asks 0 bX6_asks_0 2 = true := by decide +kernel
theorem iX6_asks_0 (hr : z_run 3 bX6_asks_0 ls st = some (ls', st')) (g : z_J Z mX6_asks R k n Q 2 ls' st' h) : z_J Z mX6_asks R k n Q 0 ls st h := z_jr bX6_asks_0 bX6_asks_0_ok hr g
theorem dX6_asks_2 : decode cX6_asks 2 = .ok (.invokestatic 96, 3) := by decide +kernel
theorem iX6_asks_2 (ha : z_args 1 st [] = some (As, rest)) (hc : z_chk rest As 1 = true) (hR : z_rm R R' 1 k n) (gc : z_J Z mX6_isDay R' 0 0 Q' 0 As [] h) (kr : ∀ (v : Option Value) (h' : zH), Q' (.inl v) h' → z_J Z mX6_asks R (k + R'.cells) (n + R'.slots) Q 5 ls (v.toList ++ rest) h') (kx : ∀ (E : String) (h' : zH), Q' (.inr E) h' → z_JX Z mX6_asks R (k + R'.cells) (n + R'.slots) Q 2 ls E h') : z_J Z mX6_asks R k n Q 2 ls st h := z_callS (M' := mX6_isDay) dX6_asks_2 rfl cs_X6_96 gw855 ha hR (z_chk1 hc) (z_chk2 hc) (z_chk3 hc) gc kr kx
theorem dX6_asks_5 : decode cX6_asks 5 = .ok (.ifCond .eq 7, 3) := by decide +kernel
theorem iX6_asks_5 (kt : x = 0 → z_J Z mX6_asks R k n Q 12 ls st h) (kf : ¬ x = 0 → z_J Z mX6_asks R k n Q 8 ls st h) : z_J Z mX6_asks R k n Q 5 ls (.int x :: st) h := z_if_eq dX6_asks_5 (tgt := 12) (by decide) rfl kt kf
def bX6_asks_8 : zB := [(8, .iconst 0, 9, nI 0), (9, .goto 4, 13, nI 0)]
theorem bX6_asks_8_ok : z_ok cX6_asks 8 bX6_asks_8 13 = true := by decide +kernel
theorem iX6_asks_8 (hr : z_run 3 bX6_asks_8 ls st = some (ls', st')) (g : z_J Z mX6_asks R k n Q 13 ls' st' h) : z_J Z mX6_asks R k n Q 8 ls st h := z_jr bX6_asks_8 bX6_asks_8_ok hr g
def bX6_asks_12 : zB := [(12, .iconst 1, 13, nI 1)]
theorem bX6_asks_12_ok : z_ok cX6_asks 12 bX6_asks_12 13 = true := by decide +kernel
theorem iX6_asks_12 (hr : z_run 3 bX6_asks_12 ls st = some (ls', st')) (g : z_J Z mX6_asks R k n Q 13 ls' st' h) : z_J Z mX6_asks R k n Q 12 ls st h := z_jr bX6_asks_12 bX6_asks_12_ok hr g
theorem dX6_asks_13 : decode cX6_asks 13 = .ok (.putfield 68, 3) := by decide +kernel
theorem iX6_asks_13 (hh : h r = some (a, .inr (7, fs))) (hl : Nat.blt 0 fs.length = true) (g : z_J Z mX6_asks R k n Q 16 ls st (z_u h r (a, .inr (7, fs.set 0 (.int x))))) : z_J Z mX6_asks R k n Q 13 ls ((.int x) :: .ref a :: st) h := z_put dX6_asks_13 rfl fl_X6_68 fw_X6_0 rfl hh rfl rfl (by simpa [Nat.blt_eq] using hl) g
def bX6_asks_16 : zB := [(16, .aload_n 0, 17, nI 0)]
theorem bX6_asks_16_ok : z_ok cX6_asks 16 bX6_asks_16 17 = true := by decide +kernel
theorem iX6_asks_16 (hr : z_run 3 bX6_asks_16 ls st = some (ls', st')) (g : z_J Z mX6_asks R k n Q 17 ls' st' h) : z_J Z mX6_asks R k n Q 16 ls st h := z_jr bX6_asks_16 bX6_asks_16_ok hr g
theorem dX6_asks_17 : decode cX6_asks 17 = .ok (.getfield 68, 3) := by decide +kernel
theorem iX6_asks_17 (hh : h r = some (a, .inr (7, fs))) (hv : fs[0]? = some v) (g : z_J Z mX6_asks R k n Q 20 ls (v :: st) h) : z_J Z mX6_asks R k n Q 17 ls (.ref a :: st) h := z_get dX6_asks_17 rfl fl_X6_68 hh hv g
theorem dX6_asks_20 : decode cX6_asks 20 = .ok (.ifCond .ne 31, 3) := by decide +kernel
theorem iX6_asks_20 (kt : ¬ x = 0 → z_J Z mX6_asks R k n Q 51 ls st h) (kf : x = 0 → z_J Z mX6_asks R k n Q 23 ls st h) : z_J Z mX6_asks R k n Q 20 ls (.int x :: st) h := z_if_ne dX6_asks_20 (tgt := 51) (by decide) rfl kt kf
def bX6_asks_23 : zB := [(23, .aload_n 0, 24, nI 0), (24, .iload_n 1, 25, nI 0)]
theorem bX6_asks_23_ok : z_ok cX6_asks 23 bX6_asks_23 25 = true := by decide +kernel
theorem iX6_asks_23 (hr : z_run 3 bX6_asks_23 ls st = some (ls', st')) (g : z_J Z mX6_asks R k n Q 25 ls' st' h) : z_J Z mX6_asks R k n Q 23 ls st h := z_jr bX6_asks_23 bX6_asks_23_ok hr g
theorem dX6_asks_25 : decode cX6_asks 25 = .ok (.invokevirtual 120, 3) := by decide +kernel
theorem iX6_asks_25 (ha : z_args 1 st [] = some (As, .ref b :: rest)) (hc : z_chk rest (.ref b :: As) 7 = true) (hh : h r = some (b, .inr (7, fs))) (hR : z_rm R R' 7 k n) (gc : z_J Z mX6_laysNeeds R' 0 0 Q' 0 (.ref b :: As) [] h) (kr : ∀ (v : Option Value) (h' : zH), Q' (.inl v) h' → z_J Z mX6_asks R (k + R'.cells) (n + R'.slots) Q 28 ls (v.toList ++ rest) h') (kx : ∀ (E : String) (h' : zH), Q' (.inr E) h' → z_JX Z mX6_asks R (k + R'.cells) (n + R'.slots) Q 25 ls E h') : z_J Z mX6_asks R k n Q 25 ls st h := z_callV (M' := mX6_laysNeeds) dX6_asks_25 rfl cs_X6_120 rfl gw886 gwp23 ha hh (ci := 7) rfl hR (z_chk1 hc) (z_chk2 hc) (z_chk3 hc) gc kr kx
def bX6_asks_28 : zB := [(28, .aload_n 0, 29, nI 0), (29, .iload_n 2, 30, nI 0), (30, .iconst 0, 31, nI 0), (31, .aload_n 0, 32, nI 0)]
theorem bX6_asks_28_ok : z_ok cX6_asks 28 bX6_asks_28 32 = true := by decide +kernel
theorem iX6_asks_28 (hr : z_run 3 bX6_asks_28 ls st = some (ls', st')) (g : z_J Z mX6_asks R k n Q 32 ls' st' h) : z_J Z mX6_asks R k n Q 28 ls st h := z_jr bX6_asks_28 bX6_asks_28_ok hr g
theorem dX6_asks_32 : decode cX6_asks 32 = .ok (.getfield 113, 3) := by decide +kernel
theorem iX6_asks_32 (hh : h r = some (a, .inr (7, fs))) (hv : fs[16]? = some v) (g : z_J Z mX6_asks R k n Q 35 ls (v :: st) h) : z_J Z mX6_asks R k n Q 32 ls (.ref a :: st) h := z_get dX6_asks_32 rfl fl_X6_113 hh hv g
def bX6_asks_35 : zB := [(35, .iconst 1, 36, nI 1), (36, .isub, 37, nI 0)]
theorem bX6_asks_35_ok : z_ok cX6_asks 35 bX6_asks_35 37 = true := by decide +kernel
theorem iX6_asks_35 (hr : z_run 3 bX6_asks_35 ls st = some (ls', st')) (g : z_J Z mX6_asks R k n Q 37 ls' st' h) : z_J Z mX6_asks R k n Q 35 ls st h := z_jr bX6_asks_35 bX6_asks_35_ok hr g
theorem dX6_asks_37 : decode cX6_asks 37 = .ok (.invokestatic 72, 3) := by decide +kernel
theorem iX6_asks_37 (ha : z_args 3 st [] = some (As, rest)) (hc : z_chk rest As 3 = true) (hR : z_rm R R' 3 k n) (gc : z_J Z mX6_in R' 0 0 Q' 0 As [] h) (kr : ∀ (v : Option Value) (h' : zH), Q' (.inl v) h' → z_J Z mX6_asks R (k + R'.cells) (n + R'.slots) Q 40 ls (v.toList ++ rest) h') (kx : ∀ (E : String) (h' : zH), Q' (.inr E) h' → z_JX Z mX6_asks R (k + R'.cells) (n + R'.slots) Q 37 ls E h') : z_J Z mX6_asks R k n Q 37 ls st h := z_callS (M' := mX6_in) dX6_asks_37 rfl cs_X6_72 gw801 ha hR (z_chk1 hc) (z_chk2 hc) (z_chk3 hc) gc kr kx
theorem dX6_asks_40 : decode cX6_asks 40 = .ok (.ifCond .eq 7, 3) := by decide +kernel
theorem iX6_asks_40 (kt : x = 0 → z_J Z mX6_asks R k n Q 47 ls st h) (kf : ¬ x = 0 → z_J Z mX6_asks R k n Q 43 ls st h) : z_J Z mX6_asks R k n Q 40 ls (.int x :: st) h := z_if_eq dX6_asks_40 (tgt := 47) (by decide) rfl kt kf
def bX6_asks_43 : zB := [(43, .iconst 0, 44, nI 0), (44, .goto 4, 48, nI 0)]
theorem bX6_asks_43_ok : z_ok cX6_asks 43 bX6_asks_43 48 = true := by decide +kernel
theorem iX6_asks_43 (hr : z_run 3 bX6_asks_43 ls st = some (ls', st')) (g : z_J Z mX6_asks R k n Q 48 ls' st' h) : z_J Z mX6_asks R k n Q 43 ls st h := z_jr bX6_asks_43 bX6_asks_43_ok hr g
def bX6_asks_47 : zB := [(47, .iconst 2, 48, nI 2)]
theorem bX6_asks_47_ok : z_ok cX6_asks 47 bX6_asks_47 48 = true := by decide +kernel
theorem iX6_asks_47 (hr : z_run 3 bX6_asks_47 ls st = some (ls', st')) (g : z_J Z mX6_asks R k n Q 48 ls' st' h) : z_J Z mX6_asks R k n Q 47 ls st h := z_jr bX6_asks_47 bX6_asks_47_ok hr g
theorem dX6_asks_48 : decode cX6_asks 48 = .ok (.putfield 68, 3) := by decide +kernel
theorem iX6_asks_48 (hh : h r = some (a, .inr (7, fs))) (hl : Nat.blt 0 fs.length = true) (g : z_J Z mX6_asks R k n Q 51 ls st (z_u h r (a, .inr (7, fs.set 0 (.int x))))) : z_J Z mX6_asks R k n Q 48 ls ((.int x) :: .ref a :: st) h := z_put dX6_asks_48 rfl fl_X6_68 fw_X6_0 rfl hh rfl rfl (by simpa [Nat.blt_eq] using hl) g
def bX6_asks_51 : zB := [(51, .aload_n 0, 52, nI 0)]
theorem bX6_asks_51_ok : z_ok cX6_asks 51 bX6_asks_51 52 = true := by decide +kernel
theorem iX6_asks_51 (hr : z_run 3 bX6_asks_51 ls st = some (ls', st')) (g : z_J Z mX6_asks R k n Q 52 ls' st' h) : z_J Z mX6_asks R k n Q 51 ls st h := z_jr bX6_asks_51 bX6_asks_51_ok hr g
theorem dX6_asks_52 : decode cX6_asks 52 = .ok (.getfield 68, 3) := by decide +kernel
theorem iX6_asks_52 (hh : h r = some (a, .inr (7, fs))) (hv : fs[0]? = some v) (g : z_J Z mX6_asks R k n Q 55 ls (v :: st) h) : z_J Z mX6_asks R k n Q 52 ls (.ref a :: st) h := z_get dX6_asks_52 rfl fl_X6_68 hh hv g
theorem dX6_asks_55 : decode cX6_asks 55 = .ok (.ifCond .ne 7, 3) := by decide +kernel
theorem iX6_asks_55 (kt : ¬ x = 0 → z_J Z mX6_asks R k n Q 62 ls st h) (kf : x = 0 → z_J Z mX6_asks R k n Q 58 ls st h) : z_J Z mX6_asks R k n Q 55 ls (.int x :: st) h := z_if_ne dX6_asks_55 (tgt := 62) (by decide) rfl kt kf
def bX6_asks_58 : zB := [(58, .iconst 1, 59, nI 1), (59, .goto 4, 63, nI 0)]
theorem bX6_asks_58_ok : z_ok cX6_asks 58 bX6_asks_58 63 = true := by decide +kernel
theorem iX6_asks_58 (hr : z_run 3 bX6_asks_58 ls st = some (ls', st')) (g : z_J Z mX6_asks R k n Q 63 ls' st' h) : z_J Z mX6_asks R k n Q 58 ls st h := z_jr bX6_asks_58 bX6_asks_58_ok hr g
def bX6_asks_62 : zB := [(62, .iconst 0, 63, nI 0)]
theorem bX6_asks_62_ok : z_ok cX6_asks 62 bX6_asks_62 63 = true := by decide +kernel
theorem iX6_asks_62 (hr : z_run 3 bX6_asks_62 ls st = some (ls', st')) (g : z_J Z mX6_asks R k n Q 63 ls' st' h) : z_J Z mX6_asks R k n Q 62 ls st h := z_jr bX6_asks_62 bX6_asks_62_ok hr g
theorem dX6_asks_63 : decode cX6_asks 63 = .ok (.ireturn, 1) := by decide +kernel
theorem iX6_asks_63 (hz : narrow .boolean (.int x) = .int x) (hk : k ≤ R.cells) (hs : n ≤ R.slots) (hq : Q (.inl (some (.int x))) h) : z_J Z mX6_asks R k n Q 63 ls [.int x] h := z_iret (ty := .boolean) dX6_asks_63 rfl hz hk hs hq
/-! X6_need -/
def bX6_need_0 : zB := [(0, .aload_n 0, 1, nI 0), (1, .iload_n 1, 2, nI 0), (2, .iload_n 2, 3, nI 0)]
theorem bX6_need_0_ok : z_ok cX6_need 0 bX6_need_0 3 = true := by decide +kernel
theorem iX6_need_0 (hr : z_run 3 bX6_need_0 ls st = some (ls', st')) (g : z_J Z mX6_need R k n Q 3 ls' st' h) : z_J Z mX6_need R k n Q 0 ls st h := z_jr bX6_need_0 bX6_need_0_ok hr g
theorem dX6_need_3 : decode cX6_need 3 = .ok (.invokevirtual 134, 3) := by decide +kernel
theorem iX6_need_3 (ha : z_args 2 st [] = some (As, .ref b :: rest)) (hc : z_chk rest (.ref b :: As) 3 = true) (hh : h r = some (b, .inr (7, fs))) (hR : z_rm R R' 3 k n) (gc : z_J Z mX6_asks R' 0 0 Q' 0 (.ref b :: As) [] h) (kr : ∀ (v : Option Value) (h' : zH), Q' (.inl v) h' → z_J Z mX6_need R (k + R'.cells) (n + R'.slots) Q 6 ls (v.toList ++ rest) h') (kx : ∀ (E : String) (h' : zH), Q' (.inr E) h' → z_JX Z mX6_need R (k + R'.cells) (n + R'.slots) Q 3 ls E h') : z_J Z mX6_need R k n Q 3 ls st h := z_callV (M' := mX6_asks) dX6_need_3 rfl cs_X6_134 rfl gw894 gwp24 ha hh (ci := 7) rfl hR (z_chk1 hc) (z_chk2 hc) (z_chk3 hc) gc kr kx
theorem dX6_need_6 : decode cX6_need 6 = .ok (.ifCond .eq 32, 3) := by decide +kernel
theorem iX6_need_6 (kt : x = 0 → z_J Z mX6_need R k n Q 38 ls st h) (kf : ¬ x = 0 → z_J Z mX6_need R k n Q 9 ls st h) : z_J Z mX6_need R k n Q 6 ls (.int x :: st) h := z_if_eq dX6_need_6 (tgt := 38) (by decide) rfl kt kf
def bX6_need_9 : zB := [(9, .bipush 100, 11, nI 100), (11, .aload_n 0, 12, nI 0)]
theorem bX6_need_9_ok : z_ok cX6_need 9 bX6_need_9 12 = true := by decide +kernel
theorem iX6_need_9 (hr : z_run 3 bX6_need_9 ls st = some (ls', st')) (g : z_J Z mX6_need R k n Q 12 ls' st' h) : z_J Z mX6_need R k n Q 9 ls st h := z_jr bX6_need_9 bX6_need_9_ok hr g
theorem dX6_need_12 : decode cX6_need 12 = .ok (.getfield 50, 3) := by decide +kernel
theorem iX6_need_12 (hh : h r = some (a, .inr (7, fs))) (hv : fs[17]? = some v) (g : z_J Z mX6_need R k n Q 15 ls (v :: st) h) : z_J Z mX6_need R k n Q 12 ls (.ref a :: st) h := z_get dX6_need_12 rfl fl_X6_50 hh hv g
def bX6_need_15 : zB := [(15, .iload_n 2, 16, nI 0)]
theorem bX6_need_15_ok : z_ok cX6_need 15 bX6_need_15 16 = true := by decide +kernel
theorem iX6_need_15 (hr : z_run 3 bX6_need_15 ls st = some (ls', st')) (g : z_J Z mX6_need R k n Q 16 ls' st' h) : z_J Z mX6_need R k n Q 15 ls st h := z_jr bX6_need_15 bX6_need_15_ok hr g
theorem dX6_need_16 : decode cX6_need 16 = .ok (.iaload, 1) := by decide +kernel
theorem iX6_need_16 {f : Nat → Int32} (hh : h r = some (a, .inl (0, N, .inl f))) (hi : i = nI j) (hj : j < N) (hN : N < 2 ^ 31) (g : z_J Z mX6_need R k n Q 17 ls (.int (f j) :: st) h) : z_J Z mX6_need R k n Q 16 ls (.int i :: .ref a :: st) h := z_iald dX6_need_16 rfl hh hi hj hN g
def bX6_need_17 : zB := [(17, .imul, 18, nI 0), (18, .bipush 10, 20, nI 10), (20, .aload_n 0, 21, nI 0)]
theorem bX6_need_17_ok : z_ok cX6_need 17 bX6_need_17 21 = true := by decide +kernel
theorem iX6_need_17 (hr : z_run 3 bX6_need_17 ls st = some (ls', st')) (g : z_J Z mX6_need R k n Q 21 ls' st' h) : z_J Z mX6_need R k n Q 17 ls st h := z_jr bX6_need_17 bX6_need_17_ok hr g
theorem dX6_need_21 : decode cX6_need 21 = .ok (.getfield 53, 3) := by decide +kernel
theorem iX6_need_21 (hh : h r = some (a, .inr (7, fs))) (hv : fs[18]? = some v) (g : z_J Z mX6_need R k n Q 24 ls (v :: st) h) : z_J Z mX6_need R k n Q 21 ls (.ref a :: st) h := z_get dX6_need_21 rfl fl_X6_53 hh hv g
def bX6_need_24 : zB := [(24, .iload_n 2, 25, nI 0)]
theorem bX6_need_24_ok : z_ok cX6_need 24 bX6_need_24 25 = true := by decide +kernel
theorem iX6_need_24 (hr : z_run 3 bX6_need_24 ls st = some (ls', st')) (g : z_J Z mX6_need R k n Q 25 ls' st' h) : z_J Z mX6_need R k n Q 24 ls st h := z_jr bX6_need_24 bX6_need_24_ok hr g
theorem dX6_need_25 : decode cX6_need 25 = .ok (.iaload, 1) := by decide +kernel
theorem iX6_need_25 {f : Nat → Int32} (hh : h r = some (a, .inl (0, N, .inl f))) (hi : i = nI j) (hj : j < N) (hN : N < 2 ^ 31) (g : z_J Z mX6_need R k n Q 26 ls (.int (f j) :: st) h) : z_J Z mX6_need R k n Q 25 ls (.int i :: .ref a :: st) h := z_iald dX6_need_25 rfl hh hi hj hN g
def bX6_need_26 : zB := [(26, .imul, 27, nI 0), (27, .iadd, 28, nI 0), (28, .aload_n 0, 29, nI 0)]
theorem bX6_need_26_ok : z_ok cX6_need 26 bX6_need_26 29 = true := by decide +kernel
theorem iX6_need_26 (hr : z_run 3 bX6_need_26 ls st = some (ls', st')) (g : z_J Z mX6_need R k n Q 29 ls' st' h) : z_J Z mX6_need R k n Q 26 ls st h := z_jr bX6_need_26 bX6_need_26_ok hr g
theorem dX6_need_29 : decode cX6_need 29 = .ok (.getfield 56, 3) := by decide +kernel
theorem iX6_need_29 (hh : h r = some (a, .inr (7, fs))) (hv : fs[19]? = some v) (g : z_J Z mX6_need R k n Q 32 ls (v :: st) h) : z_J Z mX6_need R k n Q 29 ls (.ref a :: st) h := z_get dX6_need_29 rfl fl_X6_56 hh hv g
def bX6_need_32 : zB := [(32, .iload_n 2, 33, nI 0)]
theorem bX6_need_32_ok : z_ok cX6_need 32 bX6_need_32 33 = true := by decide +kernel
theorem iX6_need_32 (hr : z_run 3 bX6_need_32 ls st = some (ls', st')) (g : z_J Z mX6_need R k n Q 33 ls' st' h) : z_J Z mX6_need R k n Q 32 ls st h := z_jr bX6_need_32 bX6_need_32_ok hr g
theorem dX6_need_33 : decode cX6_need 33 = .ok (.iaload, 1) := by decide +kernel
theorem iX6_need_33 {f : Nat → Int32} (hh : h r = some (a, .inl (0, N, .inl f))) (hi : i = nI j) (hj : j < N) (hN : N < 2 ^ 31) (g : z_J Z mX6_need R k n Q 34 ls (.int (f j) :: st) h) : z_J Z mX6_need R k n Q 33 ls (.int i :: .ref a :: st) h := z_iald dX6_need_33 rfl hh hi hj hN g
def bX6_need_34 : zB := [(34, .iadd, 35, nI 0), (35, .goto 4, 39, nI 0)]
theorem bX6_need_34_ok : z_ok cX6_need 34 bX6_need_34 39 = true := by decide +kernel
theorem iX6_need_34 (hr : z_run 3 bX6_need_34 ls st = some (ls', st')) (g : z_J Z mX6_need R k n Q 39 ls' st' h) : z_J Z mX6_need R k n Q 34 ls st h := z_jr bX6_need_34 bX6_need_34_ok hr g
def bX6_need_38 : zB := [(38, .iconst 0, 39, nI 0)]
theorem bX6_need_38_ok : z_ok cX6_need 38 bX6_need_38 39 = true := by decide +kernel
theorem iX6_need_38 (hr : z_run 3 bX6_need_38 ls st = some (ls', st')) (g : z_J Z mX6_need R k n Q 39 ls' st' h) : z_J Z mX6_need R k n Q 38 ls st h := z_jr bX6_need_38 bX6_need_38_ok hr g
theorem dX6_need_39 : decode cX6_need 39 = .ok (.ireturn, 1) := by decide +kernel
theorem iX6_need_39 (hk : k ≤ R.cells) (hs : n ≤ R.slots) (hq : Q (.inl (some (.int x))) h) : z_J Z mX6_need R k n Q 39 ls [.int x] h := z_iret (ty := .int) dX6_need_39 rfl rfl hk hs hq
/-! X6_demand -/
def bX6_demand_0 : zB := [(0, .aload_n 0, 1, nI 0), (1, .iload_n 1, 2, nI 0), (2, .iload_n 2, 3, nI 0)]
theorem bX6_demand_0_ok : z_ok cX6_demand 0 bX6_demand_0 3 = true := by decide +kernel
theorem iX6_demand_0 (hr : z_run 3 bX6_demand_0 ls st = some (ls', st')) (g : z_J Z mX6_demand R k n Q 3 ls' st' h) : z_J Z mX6_demand R k n Q 0 ls st h := z_jr bX6_demand_0 bX6_demand_0_ok hr g
theorem dX6_demand_3 : decode cX6_demand 3 = .ok (.invokevirtual 134, 3) := by decide +kernel
theorem iX6_demand_3 (ha : z_args 2 st [] = some (As, .ref b :: rest)) (hc : z_chk rest (.ref b :: As) 3 = true) (hh : h r = some (b, .inr (7, fs))) (hR : z_rm R R' 3 k n) (gc : z_J Z mX6_asks R' 0 0 Q' 0 (.ref b :: As) [] h) (kr : ∀ (v : Option Value) (h' : zH), Q' (.inl v) h' → z_J Z mX6_demand R (k + R'.cells) (n + R'.slots) Q 6 ls (v.toList ++ rest) h') (kx : ∀ (E : String) (h' : zH), Q' (.inr E) h' → z_JX Z mX6_demand R (k + R'.cells) (n + R'.slots) Q 3 ls E h') : z_J Z mX6_demand R k n Q 3 ls st h := z_callV (M' := mX6_asks) dX6_demand_3 rfl cs_X6_134 rfl gw894 gwp24 ha hh (ci := 7) rfl hR (z_chk1 hc) (z_chk2 hc) (z_chk3 hc) gc kr kx
theorem dX6_demand_6 : decode cX6_demand 6 = .ok (.ifCond .eq 12, 3) := by decide +kernel
theorem iX6_demand_6 (kt : x = 0 → z_J Z mX6_demand R k n Q 18 ls st h) (kf : ¬ x = 0 → z_J Z mX6_demand R k n Q 9 ls st h) : z_J Z mX6_demand R k n Q 6 ls (.int x :: st) h := z_if_eq dX6_demand_6 (tgt := 18) (by decide) rfl kt kf
def bX6_demand_9 : zB := [(9, .aload_n 0, 10, nI 0)]
theorem bX6_demand_9_ok : z_ok cX6_demand 9 bX6_demand_9 10 = true := by decide +kernel
theorem iX6_demand_9 (hr : z_run 3 bX6_demand_9 ls st = some (ls', st')) (g : z_J Z mX6_demand R k n Q 10 ls' st' h) : z_J Z mX6_demand R k n Q 9 ls st h := z_jr bX6_demand_9 bX6_demand_9_ok hr g
theorem dX6_demand_10 : decode cX6_demand 10 = .ok (.getfield 59, 3) := by decide +kernel
theorem iX6_demand_10 (hh : h r = some (a, .inr (7, fs))) (hv : fs[20]? = some v) (g : z_J Z mX6_demand R k n Q 13 ls (v :: st) h) : z_J Z mX6_demand R k n Q 10 ls (.ref a :: st) h := z_get dX6_demand_10 rfl fl_X6_59 hh hv g
def bX6_demand_13 : zB := [(13, .iload_n 2, 14, nI 0)]
theorem bX6_demand_13_ok : z_ok cX6_demand 13 bX6_demand_13 14 = true := by decide +kernel
theorem iX6_demand_13 (hr : z_run 3 bX6_demand_13 ls st = some (ls', st')) (g : z_J Z mX6_demand R k n Q 14 ls' st' h) : z_J Z mX6_demand R k n Q 13 ls st h := z_jr bX6_demand_13 bX6_demand_13_ok hr g
theorem dX6_demand_14 : decode cX6_demand 14 = .ok (.iaload, 1) := by decide +kernel
theorem iX6_demand_14 {f : Nat → Int32} (hh : h r = some (a, .inl (0, N, .inl f))) (hi : i = nI j) (hj : j < N) (hN : N < 2 ^ 31) (g : z_J Z mX6_demand R k n Q 15 ls (.int (f j) :: st) h) : z_J Z mX6_demand R k n Q 14 ls (.int i :: .ref a :: st) h := z_iald dX6_demand_14 rfl hh hi hj hN g
def bX6_demand_15 : zB := [(15, .goto 4, 19, nI 0)]
theorem bX6_demand_15_ok : z_ok cX6_demand 15 bX6_demand_15 19 = true := by decide +kernel
theorem iX6_demand_15 (hr : z_run 3 bX6_demand_15 ls st = some (ls', st')) (g : z_J Z mX6_demand R k n Q 19 ls' st' h) : z_J Z mX6_demand R k n Q 15 ls st h := z_jr bX6_demand_15 bX6_demand_15_ok hr g
def bX6_demand_18 : zB := [(18, .iconst 0, 19, nI 0)]
theorem bX6_demand_18_ok : z_ok cX6_demand 18 bX6_demand_18 19 = true := by decide +kernel
theorem iX6_demand_18 (hr : z_run 3 bX6_demand_18 ls st = some (ls', st')) (g : z_J Z mX6_demand R k n Q 19 ls' st' h) : z_J Z mX6_demand R k n Q 18 ls st h := z_jr bX6_demand_18 bX6_demand_18_ok hr g
theorem dX6_demand_19 : decode cX6_demand 19 = .ok (.ireturn, 1) := by decide +kernel
theorem iX6_demand_19 (hk : k ≤ R.cells) (hs : n ≤ R.slots) (hq : Q (.inl (some (.int x))) h) : z_J Z mX6_demand R k n Q 19 ls [.int x] h := z_iret (ty := .int) dX6_demand_19 rfl rfl hk hs hq
/-! X6_gets -/
def bX6_gets_0 : zB := [(0, .aload_n 0, 1, nI 0), (1, .iload_n 1, 2, nI 0), (2, .iload_n 2, 3, nI 0)]
theorem bX6_gets_0_ok : z_ok cX6_gets 0 bX6_gets_0 3 = true := by decide +kernel
theorem iX6_gets_0 (hr : z_run 3 bX6_gets_0 ls st = some (ls', st')) (g : z_J Z mX6_gets R k n Q 3 ls' st' h) : z_J Z mX6_gets R k n Q 0 ls st h := z_jr bX6_gets_0 bX6_gets_0_ok hr g
theorem dX6_gets_3 : decode cX6_gets 3 = .ok (.invokevirtual 134, 3) := by decide +kernel
theorem iX6_gets_3 (ha : z_args 2 st [] = some (As, .ref b :: rest)) (hc : z_chk rest (.ref b :: As) 3 = true) (hh : h r = some (b, .inr (7, fs))) (hR : z_rm R R' 3 k n) (gc : z_J Z mX6_asks R' 0 0 Q' 0 (.ref b :: As) [] h) (kr : ∀ (v : Option Value) (h' : zH), Q' (.inl v) h' → z_J Z mX6_gets R (k + R'.cells) (n + R'.slots) Q 6 ls (v.toList ++ rest) h') (kx : ∀ (E : String) (h' : zH), Q' (.inr E) h' → z_JX Z mX6_gets R (k + R'.cells) (n + R'.slots) Q 3 ls E h') : z_J Z mX6_gets R k n Q 3 ls st h := z_callV (M' := mX6_asks) dX6_gets_3 rfl cs_X6_134 rfl gw894 gwp24 ha hh (ci := 7) rfl hR (z_chk1 hc) (z_chk2 hc) (z_chk3 hc) gc kr kx
theorem dX6_gets_6 : decode cX6_gets 6 = .ok (.ifCond .ne 5, 3) := by decide +kernel
theorem iX6_gets_6 (kt : ¬ x = 0 → z_J Z mX6_gets R k n Q 11 ls st h) (kf : x = 0 → z_J Z mX6_gets R k n Q 9 ls st h) : z_J Z mX6_gets R k n Q 6 ls (.int x :: st) h := z_if_ne dX6_gets_6 (tgt := 11) (by decide) rfl kt kf
def bX6_gets_9 : zB := [(9, .iconst 0, 10, nI 0)]
theorem bX6_gets_9_ok : z_ok cX6_gets 9 bX6_gets_9 10 = true := by decide +kernel
theorem iX6_gets_9 (hr : z_run 3 bX6_gets_9 ls st = some (ls', st')) (g : z_J Z mX6_gets R k n Q 10 ls' st' h) : z_J Z mX6_gets R k n Q 9 ls st h := z_jr bX6_gets_9 bX6_gets_9_ok hr g
theorem dX6_gets_10 : decode cX6_gets 10 = .ok (.ireturn, 1) := by decide +kernel
theorem iX6_gets_10 (hk : k ≤ R.cells) (hs : n ≤ R.slots) (hq : Q (.inl (some (.int x))) h) : z_J Z mX6_gets R k n Q 10 ls [.int x] h := z_iret (ty := .int) dX6_gets_10 rfl rfl hk hs hq
def bX6_gets_11 : zB := [(11, .aload_n 0, 12, nI 0), (12, .iload_n 1, 13, nI 0)]
theorem bX6_gets_11_ok : z_ok cX6_gets 11 bX6_gets_11 13 = true := by decide +kernel
theorem iX6_gets_11 (hr : z_run 3 bX6_gets_11 ls st = some (ls', st')) (g : z_J Z mX6_gets R k n Q 13 ls' st' h) : z_J Z mX6_gets R k n Q 11 ls st h := z_jr bX6_gets_11 bX6_gets_11_ok hr g
theorem dX6_gets_13 : decode cX6_gets 13 = .ok (.invokevirtual 138, 3) := by decide +kernel
theorem iX6_gets_13 (ha : z_args 1 st [] = some (As, .ref b :: rest)) (hc : z_chk rest (.ref b :: As) 5 = true) (hh : h r = some (b, .inr (7, fs))) (hR : z_rm R R' 5 k n) (gc : z_J Z mX6_laysGets R' 0 0 Q' 0 (.ref b :: As) [] h) (kr : ∀ (v : Option Value) (h' : zH), Q' (.inl v) h' → z_J Z mX6_gets R (k + R'.cells) (n + R'.slots) Q 16 ls (v.toList ++ rest) h') (kx : ∀ (E : String) (h' : zH), Q' (.inr E) h' → z_JX Z mX6_gets R (k + R'.cells) (n + R'.slots) Q 13 ls E h') : z_J Z mX6_gets R k n Q 13 ls st h := z_callV (M' := mX6_laysGets) dX6_gets_13 rfl cs_X6_138 rfl gw906 gwp25 ha hh (ci := 7) rfl hR (z_chk1 hc) (z_chk2 hc) (z_chk3 hc) gc kr kx
def bX6_gets_16 : zB := [(16, .pop, 17, nI 0), (17, .aload_n 0, 18, nI 0)]
theorem bX6_gets_16_ok : z_ok cX6_gets 16 bX6_gets_16 18 = true := by decide +kernel
theorem iX6_gets_16 (hr : z_run 3 bX6_gets_16 ls st = some (ls', st')) (g : z_J Z mX6_gets R k n Q 18 ls' st' h) : z_J Z mX6_gets R k n Q 16 ls st h := z_jr bX6_gets_16 bX6_gets_16_ok hr g
theorem dX6_gets_18 : decode cX6_gets 18 = .ok (.getfield 62, 3) := by decide +kernel
theorem iX6_gets_18 (hh : h r = some (a, .inr (7, fs))) (hv : fs[21]? = some v) (g : z_J Z mX6_gets R k n Q 21 ls (v :: st) h) : z_J Z mX6_gets R k n Q 18 ls (.ref a :: st) h := z_get dX6_gets_18 rfl fl_X6_62 hh hv g
def bX6_gets_21 : zB := [(21, .iload_n 2, 22, nI 0)]
theorem bX6_gets_21_ok : z_ok cX6_gets 21 bX6_gets_21 22 = true := by decide +kernel
theorem iX6_gets_21 (hr : z_run 3 bX6_gets_21 ls st = some (ls', st')) (g : z_J Z mX6_gets R k n Q 22 ls' st' h) : z_J Z mX6_gets R k n Q 21 ls st h := z_jr bX6_gets_21 bX6_gets_21_ok hr g
theorem dX6_gets_22 : decode cX6_gets 22 = .ok (.iaload, 1) := by decide +kernel
theorem iX6_gets_22 {f : Nat → Int32} (hh : h r = some (a, .inl (0, N, .inl f))) (hi : i = nI j) (hj : j < N) (hN : N < 2 ^ 31) (g : z_J Z mX6_gets R k n Q 23 ls (.int (f j) :: st) h) : z_J Z mX6_gets R k n Q 22 ls (.int i :: .ref a :: st) h := z_iald dX6_gets_22 rfl hh hi hj hN g
theorem dX6_gets_23 : decode cX6_gets 23 = .ok (.ireturn, 1) := by decide +kernel
theorem iX6_gets_23 (hk : k ≤ R.cells) (hs : n ≤ R.slots) (hq : Q (.inl (some (.int x))) h) : z_J Z mX6_gets R k n Q 23 ls [.int x] h := z_iret (ty := .int) dX6_gets_23 rfl rfl hk hs hq
/-! X6_lacks -/
def bX6_lacks_0 : zB := [(0, .aload_n 0, 1, nI 0), (1, .iload_n 1, 2, nI 0)]
theorem bX6_lacks_0_ok : z_ok cX6_lacks 0 bX6_lacks_0 2 = true := by decide +kernel
theorem iX6_lacks_0 (hr : z_run 5 bX6_lacks_0 ls st = some (ls', st')) (g : z_J Z mX6_lacks R k n Q 2 ls' st' h) : z_J Z mX6_lacks R k n Q 0 ls st h := z_jr bX6_lacks_0 bX6_lacks_0_ok hr g
theorem dX6_lacks_2 : decode cX6_lacks 2 = .ok (.invokevirtual 138, 3) := by decide +kernel
theorem iX6_lacks_2 (ha : z_args 1 st [] = some (As, .ref b :: rest)) (hc : z_chk rest (.ref b :: As) 5 = true) (hh : h r = some (b, .inr (7, fs))) (hR : z_rm R R' 5 k n) (gc : z_J Z mX6_laysGets R' 0 0 Q' 0 (.ref b :: As) [] h) (kr : ∀ (v : Option Value) (h' : zH), Q' (.inl v) h' → z_J Z mX6_lacks R (k + R'.cells) (n + R'.slots) Q 5 ls (v.toList ++ rest) h') (kx : ∀ (E : String) (h' : zH), Q' (.inr E) h' → z_JX Z mX6_lacks R (k + R'.cells) (n + R'.slots) Q 2 ls E h') : z_J Z mX6_lacks R k n Q 2 ls st h := z_callV (M' := mX6_laysGets) dX6_lacks_2 rfl cs_X6_138 rfl gw906 gwp25 ha hh (ci := 7) rfl hR (z_chk1 hc) (z_chk2 hc) (z_chk3 hc) gc kr kx
def bX6_lacks_5 : zB := [(5, .istore_n 2, 6, nI 0), (6, .iconst 0, 7, nI 0), (7, .istore_n 3, 8, nI 0), (8, .iconst 0, 9, nI 0), (9, .istore 4, 11, nI 0)]
theorem bX6_lacks_5_ok : z_ok cX6_lacks 5 bX6_lacks_5 11 = true := by decide +kernel
theorem iX6_lacks_5 (hr : z_run 5 bX6_lacks_5 ls st = some (ls', st')) (g : z_J Z mX6_lacks R k n Q 11 ls' st' h) : z_J Z mX6_lacks R k n Q 5 ls st h := z_jr bX6_lacks_5 bX6_lacks_5_ok hr g
def bX6_lacks_11 : zB := [(11, .iload 4, 13, nI 0), (13, .aload_n 0, 14, nI 0)]
theorem bX6_lacks_11_ok : z_ok cX6_lacks 11 bX6_lacks_11 14 = true := by decide +kernel
theorem iX6_lacks_11 (hr : z_run 5 bX6_lacks_11 ls st = some (ls', st')) (g : z_J Z mX6_lacks R k n Q 14 ls' st' h) : z_J Z mX6_lacks R k n Q 11 ls st h := z_jr bX6_lacks_11 bX6_lacks_11_ok hr g
theorem dX6_lacks_14 : decode cX6_lacks 14 = .ok (.getfield 113, 3) := by decide +kernel
theorem iX6_lacks_14 (hh : h r = some (a, .inr (7, fs))) (hv : fs[16]? = some v) (g : z_J Z mX6_lacks R k n Q 17 ls (v :: st) h) : z_J Z mX6_lacks R k n Q 14 ls (.ref a :: st) h := z_get dX6_lacks_14 rfl fl_X6_113 hh hv g
theorem dX6_lacks_17 : decode cX6_lacks 17 = .ok (.if_icmp .ge 19, 3) := by decide +kernel
theorem iX6_lacks_17 (kt : y ≤ x → z_J Z mX6_lacks R k n Q 36 ls st h) (kf : ¬ y ≤ x → z_J Z mX6_lacks R k n Q 20 ls st h) : z_J Z mX6_lacks R k n Q 17 ls (.int y :: .int x :: st) h := z_ic_ge dX6_lacks_17 (tgt := 36) (by decide) rfl kt kf
def bX6_lacks_20 : zB := [(20, .iload_n 3, 21, nI 0), (21, .aload_n 0, 22, nI 0)]
theorem bX6_lacks_20_ok : z_ok cX6_lacks 20 bX6_lacks_20 22 = true := by decide +kernel
theorem iX6_lacks_20 (hr : z_run 5 bX6_lacks_20 ls st = some (ls', st')) (g : z_J Z mX6_lacks R k n Q 22 ls' st' h) : z_J Z mX6_lacks R k n Q 20 ls st h := z_jr bX6_lacks_20 bX6_lacks_20_ok hr g
theorem dX6_lacks_22 : decode cX6_lacks 22 = .ok (.getfield 59, 3) := by decide +kernel
theorem iX6_lacks_22 (hh : h r = some (a, .inr (7, fs))) (hv : fs[20]? = some v) (g : z_J Z mX6_lacks R k n Q 25 ls (v :: st) h) : z_J Z mX6_lacks R k n Q 22 ls (.ref a :: st) h := z_get dX6_lacks_22 rfl fl_X6_59 hh hv g
def bX6_lacks_25 : zB := [(25, .iload 4, 27, nI 0)]
theorem bX6_lacks_25_ok : z_ok cX6_lacks 25 bX6_lacks_25 27 = true := by decide +kernel
theorem iX6_lacks_25 (hr : z_run 5 bX6_lacks_25 ls st = some (ls', st')) (g : z_J Z mX6_lacks R k n Q 27 ls' st' h) : z_J Z mX6_lacks R k n Q 25 ls st h := z_jr bX6_lacks_25 bX6_lacks_25_ok hr g
theorem dX6_lacks_27 : decode cX6_lacks 27 = .ok (.iaload, 1) := by decide +kernel
theorem iX6_lacks_27 {f : Nat → Int32} (hh : h r = some (a, .inl (0, N, .inl f))) (hi : i = nI j) (hj : j < N) (hN : N < 2 ^ 31) (g : z_J Z mX6_lacks R k n Q 28 ls (.int (f j) :: st) h) : z_J Z mX6_lacks R k n Q 27 ls (.int i :: .ref a :: st) h := z_iald dX6_lacks_27 rfl hh hi hj hN g
def bX6_lacks_28 : zB := [(28, .iadd, 29, nI 0), (29, .istore_n 3, 30, nI 0), (30, .iinc 4 1, 33, nI 1), (33, .goto (-22), 11, nI 0)]
theorem bX6_lacks_28_ok : z_ok cX6_lacks 28 bX6_lacks_28 11 = true := by decide +kernel
theorem iX6_lacks_28 (hr : z_run 5 bX6_lacks_28 ls st = some (ls', st')) (g : z_J Z mX6_lacks R k n Q 11 ls' st' h) : z_J Z mX6_lacks R k n Q 28 ls st h := z_jr bX6_lacks_28 bX6_lacks_28_ok hr g
def bX6_lacks_36 : zB := [(36, .iload_n 3, 37, nI 0), (37, .iload_n 2, 38, nI 0), (38, .isub, 39, nI 0)]
theorem bX6_lacks_36_ok : z_ok cX6_lacks 36 bX6_lacks_36 39 = true := by decide +kernel
theorem iX6_lacks_36 (hr : z_run 5 bX6_lacks_36 ls st = some (ls', st')) (g : z_J Z mX6_lacks R k n Q 39 ls' st' h) : z_J Z mX6_lacks R k n Q 36 ls st h := z_jr bX6_lacks_36 bX6_lacks_36_ok hr g
theorem dX6_lacks_39 : decode cX6_lacks 39 = .ok (.ireturn, 1) := by decide +kernel
theorem iX6_lacks_39 (hk : k ≤ R.cells) (hs : n ≤ R.slots) (hq : Q (.inl (some (.int x))) h) : z_J Z mX6_lacks R k n Q 39 ls [.int x] h := z_iret (ty := .int) dX6_lacks_39 rfl rfl hk hs hq
/-! X6_lack -/
def bX6_lack_0 : zB := [(0, .aload_n 0, 1, nI 0), (1, .iload_n 1, 2, nI 0)]
theorem bX6_lack_0_ok : z_ok cX6_lack 0 bX6_lack_0 2 = true := by decide +kernel
theorem iX6_lack_0 (hr : z_run 2 bX6_lack_0 ls st = some (ls', st')) (g : z_J Z mX6_lack R k n Q 2 ls' st' h) : z_J Z mX6_lack R k n Q 0 ls st h := z_jr bX6_lack_0 bX6_lack_0_ok hr g
theorem dX6_lack_2 : decode cX6_lack 2 = .ok (.invokestatic 96, 3) := by decide +kernel
theorem iX6_lack_2 (ha : z_args 1 st [] = some (As, rest)) (hc : z_chk rest As 1 = true) (hR : z_rm R R' 1 k n) (gc : z_J Z mX6_isDay R' 0 0 Q' 0 As [] h) (kr : ∀ (v : Option Value) (h' : zH), Q' (.inl v) h' → z_J Z mX6_lack R (k + R'.cells) (n + R'.slots) Q 5 ls (v.toList ++ rest) h') (kx : ∀ (E : String) (h' : zH), Q' (.inr E) h' → z_JX Z mX6_lack R (k + R'.cells) (n + R'.slots) Q 2 ls E h') : z_J Z mX6_lack R k n Q 2 ls st h := z_callS (M' := mX6_isDay) dX6_lack_2 rfl cs_X6_96 gw855 ha hR (z_chk1 hc) (z_chk2 hc) (z_chk3 hc) gc kr kx
theorem dX6_lack_5 : decode cX6_lack 5 = .ok (.ifCond .eq 7, 3) := by decide +kernel
theorem iX6_lack_5 (kt : x = 0 → z_J Z mX6_lack R k n Q 12 ls st h) (kf : ¬ x = 0 → z_J Z mX6_lack R k n Q 8 ls st h) : z_J Z mX6_lack R k n Q 5 ls (.int x :: st) h := z_if_eq dX6_lack_5 (tgt := 12) (by decide) rfl kt kf
def bX6_lack_8 : zB := [(8, .iconst 0, 9, nI 0), (9, .goto 4, 13, nI 0)]
theorem bX6_lack_8_ok : z_ok cX6_lack 8 bX6_lack_8 13 = true := by decide +kernel
theorem iX6_lack_8 (hr : z_run 2 bX6_lack_8 ls st = some (ls', st')) (g : z_J Z mX6_lack R k n Q 13 ls' st' h) : z_J Z mX6_lack R k n Q 8 ls st h := z_jr bX6_lack_8 bX6_lack_8_ok hr g
def bX6_lack_12 : zB := [(12, .iconst 1, 13, nI 1)]
theorem bX6_lack_12_ok : z_ok cX6_lack 12 bX6_lack_12 13 = true := by decide +kernel
theorem iX6_lack_12 (hr : z_run 2 bX6_lack_12 ls st = some (ls', st')) (g : z_J Z mX6_lack R k n Q 13 ls' st' h) : z_J Z mX6_lack R k n Q 12 ls st h := z_jr bX6_lack_12 bX6_lack_12_ok hr g
theorem dX6_lack_13 : decode cX6_lack 13 = .ok (.putfield 68, 3) := by decide +kernel
theorem iX6_lack_13 (hh : h r = some (a, .inr (7, fs))) (hl : Nat.blt 0 fs.length = true) (g : z_J Z mX6_lack R k n Q 16 ls st (z_u h r (a, .inr (7, fs.set 0 (.int x))))) : z_J Z mX6_lack R k n Q 13 ls ((.int x) :: .ref a :: st) h := z_put dX6_lack_13 rfl fl_X6_68 fw_X6_0 rfl hh rfl rfl (by simpa [Nat.blt_eq] using hl) g
def bX6_lack_16 : zB := [(16, .aload_n 0, 17, nI 0)]
theorem bX6_lack_16_ok : z_ok cX6_lack 16 bX6_lack_16 17 = true := by decide +kernel
theorem iX6_lack_16 (hr : z_run 2 bX6_lack_16 ls st = some (ls', st')) (g : z_J Z mX6_lack R k n Q 17 ls' st' h) : z_J Z mX6_lack R k n Q 16 ls st h := z_jr bX6_lack_16 bX6_lack_16_ok hr g
theorem dX6_lack_17 : decode cX6_lack 17 = .ok (.getfield 68, 3) := by decide +kernel
theorem iX6_lack_17 (hh : h r = some (a, .inr (7, fs))) (hv : fs[0]? = some v) (g : z_J Z mX6_lack R k n Q 20 ls (v :: st) h) : z_J Z mX6_lack R k n Q 17 ls (.ref a :: st) h := z_get dX6_lack_17 rfl fl_X6_68 hh hv g
theorem dX6_lack_20 : decode cX6_lack 20 = .ok (.ifCond .le 7, 3) := by decide +kernel
theorem iX6_lack_20 (kt : x ≤ 0 → z_J Z mX6_lack R k n Q 27 ls st h) (kf : ¬ x ≤ 0 → z_J Z mX6_lack R k n Q 23 ls st h) : z_J Z mX6_lack R k n Q 20 ls (.int x :: st) h := z_if_le dX6_lack_20 (tgt := 27) (by decide) rfl kt kf
def bX6_lack_23 : zB := [(23, .iconst 0, 24, nI 0), (24, .goto 8, 32, nI 0)]
theorem bX6_lack_23_ok : z_ok cX6_lack 23 bX6_lack_23 32 = true := by decide +kernel
theorem iX6_lack_23 (hr : z_run 2 bX6_lack_23 ls st = some (ls', st')) (g : z_J Z mX6_lack R k n Q 32 ls' st' h) : z_J Z mX6_lack R k n Q 23 ls st h := z_jr bX6_lack_23 bX6_lack_23_ok hr g
def bX6_lack_27 : zB := [(27, .aload_n 0, 28, nI 0), (28, .iload_n 1, 29, nI 0)]
theorem bX6_lack_27_ok : z_ok cX6_lack 27 bX6_lack_27 29 = true := by decide +kernel
theorem iX6_lack_27 (hr : z_run 2 bX6_lack_27 ls st = some (ls', st')) (g : z_J Z mX6_lack R k n Q 29 ls' st' h) : z_J Z mX6_lack R k n Q 27 ls st h := z_jr bX6_lack_27 bX6_lack_27_ok hr g
theorem dX6_lack_29 : decode cX6_lack 29 = .ok (.invokevirtual 141, 3) := by decide +kernel
theorem iX6_lack_29 (ha : z_args 1 st [] = some (As, .ref b :: rest)) (hc : z_chk rest (.ref b :: As) 5 = true) (hh : h r = some (b, .inr (7, fs))) (hR : z_rm R R' 5 k n) (gc : z_J Z mX6_lacks R' 0 0 Q' 0 (.ref b :: As) [] h) (kr : ∀ (v : Option Value) (h' : zH), Q' (.inl v) h' → z_J Z mX6_lack R (k + R'.cells) (n + R'.slots) Q 32 ls (v.toList ++ rest) h') (kx : ∀ (E : String) (h' : zH), Q' (.inr E) h' → z_JX Z mX6_lack R (k + R'.cells) (n + R'.slots) Q 29 ls E h') : z_J Z mX6_lack R k n Q 29 ls st h := z_callV (M' := mX6_lacks) dX6_lack_29 rfl cs_X6_141 rfl gw930 gwp30 ha hh (ci := 7) rfl hR (z_chk1 hc) (z_chk2 hc) (z_chk3 hc) gc kr kx
theorem dX6_lack_32 : decode cX6_lack 32 = .ok (.ireturn, 1) := by decide +kernel
theorem iX6_lack_32 (hk : k ≤ R.cells) (hs : n ≤ R.slots) (hq : Q (.inl (some (.int x))) h) : z_J Z mX6_lack R k n Q 32 ls [.int x] h := z_iret (ty := .int) dX6_lack_32 rfl rfl hk hs hq
/-! X6_lackBySets -/
def bX6_lackBySets_0 : zB := [(0, .aload_n 0, 1, nI 0), (1, .iload_n 1, 2, nI 0)]
theorem bX6_lackBySets_0_ok : z_ok cX6_lackBySets 0 bX6_lackBySets_0 2 = true := by decide +kernel
theorem iX6_lackBySets_0 (hr : z_run 2 bX6_lackBySets_0 ls st = some (ls', st')) (g : z_J Z mX6_lackBySets R k n Q 2 ls' st' h) : z_J Z mX6_lackBySets R k n Q 0 ls st h := z_jr bX6_lackBySets_0 bX6_lackBySets_0_ok hr g
theorem dX6_lackBySets_2 : decode cX6_lackBySets 2 = .ok (.invokestatic 96, 3) := by decide +kernel
theorem iX6_lackBySets_2 (ha : z_args 1 st [] = some (As, rest)) (hc : z_chk rest As 1 = true) (hR : z_rm R R' 1 k n) (gc : z_J Z mX6_isDay R' 0 0 Q' 0 As [] h) (kr : ∀ (v : Option Value) (h' : zH), Q' (.inl v) h' → z_J Z mX6_lackBySets R (k + R'.cells) (n + R'.slots) Q 5 ls (v.toList ++ rest) h') (kx : ∀ (E : String) (h' : zH), Q' (.inr E) h' → z_JX Z mX6_lackBySets R (k + R'.cells) (n + R'.slots) Q 2 ls E h') : z_J Z mX6_lackBySets R k n Q 2 ls st h := z_callS (M' := mX6_isDay) dX6_lackBySets_2 rfl cs_X6_96 gw855 ha hR (z_chk1 hc) (z_chk2 hc) (z_chk3 hc) gc kr kx
theorem dX6_lackBySets_5 : decode cX6_lackBySets 5 = .ok (.ifCond .eq 7, 3) := by decide +kernel
theorem iX6_lackBySets_5 (kt : x = 0 → z_J Z mX6_lackBySets R k n Q 12 ls st h) (kf : ¬ x = 0 → z_J Z mX6_lackBySets R k n Q 8 ls st h) : z_J Z mX6_lackBySets R k n Q 5 ls (.int x :: st) h := z_if_eq dX6_lackBySets_5 (tgt := 12) (by decide) rfl kt kf
def bX6_lackBySets_8 : zB := [(8, .iconst 0, 9, nI 0), (9, .goto 4, 13, nI 0)]
theorem bX6_lackBySets_8_ok : z_ok cX6_lackBySets 8 bX6_lackBySets_8 13 = true := by decide +kernel
theorem iX6_lackBySets_8 (hr : z_run 2 bX6_lackBySets_8 ls st = some (ls', st')) (g : z_J Z mX6_lackBySets R k n Q 13 ls' st' h) : z_J Z mX6_lackBySets R k n Q 8 ls st h := z_jr bX6_lackBySets_8 bX6_lackBySets_8_ok hr g
def bX6_lackBySets_12 : zB := [(12, .iconst 1, 13, nI 1)]
theorem bX6_lackBySets_12_ok : z_ok cX6_lackBySets 12 bX6_lackBySets_12 13 = true := by decide +kernel
theorem iX6_lackBySets_12 (hr : z_run 2 bX6_lackBySets_12 ls st = some (ls', st')) (g : z_J Z mX6_lackBySets R k n Q 13 ls' st' h) : z_J Z mX6_lackBySets R k n Q 12 ls st h := z_jr bX6_lackBySets_12 bX6_lackBySets_12_ok hr g
theorem dX6_lackBySets_13 : decode cX6_lackBySets 13 = .ok (.putfield 68, 3) := by decide +kernel
theorem iX6_lackBySets_13 (hh : h r = some (a, .inr (7, fs))) (hl : Nat.blt 0 fs.length = true) (g : z_J Z mX6_lackBySets R k n Q 16 ls st (z_u h r (a, .inr (7, fs.set 0 (.int x))))) : z_J Z mX6_lackBySets R k n Q 13 ls ((.int x) :: .ref a :: st) h := z_put dX6_lackBySets_13 rfl fl_X6_68 fw_X6_0 rfl hh rfl rfl (by simpa [Nat.blt_eq] using hl) g
def bX6_lackBySets_16 : zB := [(16, .aload_n 0, 17, nI 0)]
theorem bX6_lackBySets_16_ok : z_ok cX6_lackBySets 16 bX6_lackBySets_16 17 = true := by decide +kernel
theorem iX6_lackBySets_16 (hr : z_run 2 bX6_lackBySets_16 ls st = some (ls', st')) (g : z_J Z mX6_lackBySets R k n Q 17 ls' st' h) : z_J Z mX6_lackBySets R k n Q 16 ls st h := z_jr bX6_lackBySets_16 bX6_lackBySets_16_ok hr g
theorem dX6_lackBySets_17 : decode cX6_lackBySets 17 = .ok (.getfield 68, 3) := by decide +kernel
theorem iX6_lackBySets_17 (hh : h r = some (a, .inr (7, fs))) (hv : fs[0]? = some v) (g : z_J Z mX6_lackBySets R k n Q 20 ls (v :: st) h) : z_J Z mX6_lackBySets R k n Q 17 ls (.ref a :: st) h := z_get dX6_lackBySets_17 rfl fl_X6_68 hh hv g
theorem dX6_lackBySets_20 : decode cX6_lackBySets 20 = .ok (.ifCond .ne 26, 3) := by decide +kernel
theorem iX6_lackBySets_20 (kt : ¬ x = 0 → z_J Z mX6_lackBySets R k n Q 46 ls st h) (kf : x = 0 → z_J Z mX6_lackBySets R k n Q 23 ls st h) : z_J Z mX6_lackBySets R k n Q 20 ls (.int x :: st) h := z_if_ne dX6_lackBySets_20 (tgt := 46) (by decide) rfl kt kf
def bX6_lackBySets_23 : zB := [(23, .aload_n 0, 24, nI 0), (24, .iload_n 1, 25, nI 0)]
theorem bX6_lackBySets_23_ok : z_ok cX6_lackBySets 23 bX6_lackBySets_23 25 = true := by decide +kernel
theorem iX6_lackBySets_23 (hr : z_run 2 bX6_lackBySets_23 ls st = some (ls', st')) (g : z_J Z mX6_lackBySets R k n Q 25 ls' st' h) : z_J Z mX6_lackBySets R k n Q 23 ls st h := z_jr bX6_lackBySets_23 bX6_lackBySets_23_ok hr g
theorem dX6_lackBySets_25 : decode cX6_lackBySets 25 = .ok (.invokevirtual 120, 3) := by decide +kernel
theorem iX6_lackBySets_25 (ha : z_args 1 st [] = some (As, .ref b :: rest)) (hc : z_chk rest (.ref b :: As) 7 = true) (hh : h r = some (b, .inr (7, fs))) (hR : z_rm R R' 7 k n) (gc : z_J Z mX6_laysNeeds R' 0 0 Q' 0 (.ref b :: As) [] h) (kr : ∀ (v : Option Value) (h' : zH), Q' (.inl v) h' → z_J Z mX6_lackBySets R (k + R'.cells) (n + R'.slots) Q 28 ls (v.toList ++ rest) h') (kx : ∀ (E : String) (h' : zH), Q' (.inr E) h' → z_JX Z mX6_lackBySets R (k + R'.cells) (n + R'.slots) Q 25 ls E h') : z_J Z mX6_lackBySets R k n Q 25 ls st h := z_callV (M' := mX6_laysNeeds) dX6_lackBySets_25 rfl cs_X6_120 rfl gw886 gwp23 ha hh (ci := 7) rfl hR (z_chk1 hc) (z_chk2 hc) (z_chk3 hc) gc kr kx
def bX6_lackBySets_28 : zB := [(28, .aload_n 0, 29, nI 0), (29, .aload_n 0, 30, nI 0)]
theorem bX6_lackBySets_28_ok : z_ok cX6_lackBySets 28 bX6_lackBySets_28 30 = true := by decide +kernel
theorem iX6_lackBySets_28 (hr : z_run 2 bX6_lackBySets_28 ls st = some (ls', st')) (g : z_J Z mX6_lackBySets R k n Q 30 ls' st' h) : z_J Z mX6_lackBySets R k n Q 28 ls st h := z_jr bX6_lackBySets_28 bX6_lackBySets_28_ok hr g
theorem dX6_lackBySets_30 : decode cX6_lackBySets 30 = .ok (.getfield 113, 3) := by decide +kernel
theorem iX6_lackBySets_30 (hh : h r = some (a, .inr (7, fs))) (hv : fs[16]? = some v) (g : z_J Z mX6_lackBySets R k n Q 33 ls (v :: st) h) : z_J Z mX6_lackBySets R k n Q 30 ls (.ref a :: st) h := z_get dX6_lackBySets_30 rfl fl_X6_113 hh hv g
def bX6_lackBySets_33 : zB := [(33, .bipush 10, 35, nI 10)]
theorem bX6_lackBySets_33_ok : z_ok cX6_lackBySets 33 bX6_lackBySets_33 35 = true := by decide +kernel
theorem iX6_lackBySets_33 (hr : z_run 2 bX6_lackBySets_33 ls st = some (ls', st')) (g : z_J Z mX6_lackBySets R k n Q 35 ls' st' h) : z_J Z mX6_lackBySets R k n Q 33 ls st h := z_jr bX6_lackBySets_33 bX6_lackBySets_33_ok hr g
theorem dX6_lackBySets_35 : decode cX6_lackBySets 35 = .ok (.if_icmp .le 7, 3) := by decide +kernel
theorem iX6_lackBySets_35 (kt : x ≤ y → z_J Z mX6_lackBySets R k n Q 42 ls st h) (kf : ¬ x ≤ y → z_J Z mX6_lackBySets R k n Q 38 ls st h) : z_J Z mX6_lackBySets R k n Q 35 ls (.int y :: .int x :: st) h := z_ic_le dX6_lackBySets_35 (tgt := 42) (by decide) rfl kt kf
def bX6_lackBySets_38 : zB := [(38, .iconst 2, 39, nI 2), (39, .goto 4, 43, nI 0)]
theorem bX6_lackBySets_38_ok : z_ok cX6_lackBySets 38 bX6_lackBySets_38 43 = true := by decide +kernel
theorem iX6_lackBySets_38 (hr : z_run 2 bX6_lackBySets_38 ls st = some (ls', st')) (g : z_J Z mX6_lackBySets R k n Q 43 ls' st' h) : z_J Z mX6_lackBySets R k n Q 38 ls st h := z_jr bX6_lackBySets_38 bX6_lackBySets_38_ok hr g
def bX6_lackBySets_42 : zB := [(42, .iconst 0, 43, nI 0)]
theorem bX6_lackBySets_42_ok : z_ok cX6_lackBySets 42 bX6_lackBySets_42 43 = true := by decide +kernel
theorem iX6_lackBySets_42 (hr : z_run 2 bX6_lackBySets_42 ls st = some (ls', st')) (g : z_J Z mX6_lackBySets R k n Q 43 ls' st' h) : z_J Z mX6_lackBySets R k n Q 42 ls st h := z_jr bX6_lackBySets_42 bX6_lackBySets_42_ok hr g
theorem dX6_lackBySets_43 : decode cX6_lackBySets 43 = .ok (.putfield 68, 3) := by decide +kernel
theorem iX6_lackBySets_43 (hh : h r = some (a, .inr (7, fs))) (hl : Nat.blt 0 fs.length = true) (g : z_J Z mX6_lackBySets R k n Q 46 ls st (z_u h r (a, .inr (7, fs.set 0 (.int x))))) : z_J Z mX6_lackBySets R k n Q 43 ls ((.int x) :: .ref a :: st) h := z_put dX6_lackBySets_43 rfl fl_X6_68 fw_X6_0 rfl hh rfl rfl (by simpa [Nat.blt_eq] using hl) g
def bX6_lackBySets_46 : zB := [(46, .aload_n 0, 47, nI 0)]
theorem bX6_lackBySets_46_ok : z_ok cX6_lackBySets 46 bX6_lackBySets_46 47 = true := by decide +kernel
theorem iX6_lackBySets_46 (hr : z_run 2 bX6_lackBySets_46 ls st = some (ls', st')) (g : z_J Z mX6_lackBySets R k n Q 47 ls' st' h) : z_J Z mX6_lackBySets R k n Q 46 ls st h := z_jr bX6_lackBySets_46 bX6_lackBySets_46_ok hr g
theorem dX6_lackBySets_47 : decode cX6_lackBySets 47 = .ok (.getfield 68, 3) := by decide +kernel
theorem iX6_lackBySets_47 (hh : h r = some (a, .inr (7, fs))) (hv : fs[0]? = some v) (g : z_J Z mX6_lackBySets R k n Q 50 ls (v :: st) h) : z_J Z mX6_lackBySets R k n Q 47 ls (.ref a :: st) h := z_get dX6_lackBySets_47 rfl fl_X6_68 hh hv g
theorem dX6_lackBySets_50 : decode cX6_lackBySets 50 = .ok (.ifCond .le 7, 3) := by decide +kernel
theorem iX6_lackBySets_50 (kt : x ≤ 0 → z_J Z mX6_lackBySets R k n Q 57 ls st h) (kf : ¬ x ≤ 0 → z_J Z mX6_lackBySets R k n Q 53 ls st h) : z_J Z mX6_lackBySets R k n Q 50 ls (.int x :: st) h := z_if_le dX6_lackBySets_50 (tgt := 57) (by decide) rfl kt kf
def bX6_lackBySets_53 : zB := [(53, .iconst 0, 54, nI 0), (54, .goto 8, 62, nI 0)]
theorem bX6_lackBySets_53_ok : z_ok cX6_lackBySets 53 bX6_lackBySets_53 62 = true := by decide +kernel
theorem iX6_lackBySets_53 (hr : z_run 2 bX6_lackBySets_53 ls st = some (ls', st')) (g : z_J Z mX6_lackBySets R k n Q 62 ls' st' h) : z_J Z mX6_lackBySets R k n Q 53 ls st h := z_jr bX6_lackBySets_53 bX6_lackBySets_53_ok hr g
def bX6_lackBySets_57 : zB := [(57, .aload_n 0, 58, nI 0), (58, .iload_n 1, 59, nI 0)]
theorem bX6_lackBySets_57_ok : z_ok cX6_lackBySets 57 bX6_lackBySets_57 59 = true := by decide +kernel
theorem iX6_lackBySets_57 (hr : z_run 2 bX6_lackBySets_57 ls st = some (ls', st')) (g : z_J Z mX6_lackBySets R k n Q 59 ls' st' h) : z_J Z mX6_lackBySets R k n Q 57 ls st h := z_jr bX6_lackBySets_57 bX6_lackBySets_57_ok hr g
theorem dX6_lackBySets_59 : decode cX6_lackBySets 59 = .ok (.invokevirtual 141, 3) := by decide +kernel
theorem iX6_lackBySets_59 (ha : z_args 1 st [] = some (As, .ref b :: rest)) (hc : z_chk rest (.ref b :: As) 5 = true) (hh : h r = some (b, .inr (7, fs))) (hR : z_rm R R' 5 k n) (gc : z_J Z mX6_lacks R' 0 0 Q' 0 (.ref b :: As) [] h) (kr : ∀ (v : Option Value) (h' : zH), Q' (.inl v) h' → z_J Z mX6_lackBySets R (k + R'.cells) (n + R'.slots) Q 62 ls (v.toList ++ rest) h') (kx : ∀ (E : String) (h' : zH), Q' (.inr E) h' → z_JX Z mX6_lackBySets R (k + R'.cells) (n + R'.slots) Q 59 ls E h') : z_J Z mX6_lackBySets R k n Q 59 ls st h := z_callV (M' := mX6_lacks) dX6_lackBySets_59 rfl cs_X6_141 rfl gw930 gwp30 ha hh (ci := 7) rfl hR (z_chk1 hc) (z_chk2 hc) (z_chk3 hc) gc kr kx
theorem dX6_lackBySets_62 : decode cX6_lackBySets 62 = .ok (.ireturn, 1) := by decide +kernel
theorem iX6_lackBySets_62 (hk : k ≤ R.cells) (hs : n ≤ R.slots) (hq : Q (.inl (some (.int x))) h) : z_J Z mX6_lackBySets R k n Q 62 ls [.int x] h := z_iret (ty := .int) dX6_lackBySets_62 rfl rfl hk hs hq
/-! X6_spare -/
def bX6_spare_0 : zB := [(0, .aload_n 0, 1, nI 0), (1, .iload_n 1, 2, nI 0)]
theorem bX6_spare_0_ok : z_ok cX6_spare 0 bX6_spare_0 2 = true := by decide +kernel
theorem iX6_spare_0 (hr : z_run 5 bX6_spare_0 ls st = some (ls', st')) (g : z_J Z mX6_spare R k n Q 2 ls' st' h) : z_J Z mX6_spare R k n Q 0 ls st h := z_jr bX6_spare_0 bX6_spare_0_ok hr g
theorem dX6_spare_2 : decode cX6_spare 2 = .ok (.invokestatic 96, 3) := by decide +kernel
theorem iX6_spare_2 (ha : z_args 1 st [] = some (As, rest)) (hc : z_chk rest As 1 = true) (hR : z_rm R R' 1 k n) (gc : z_J Z mX6_isDay R' 0 0 Q' 0 As [] h) (kr : ∀ (v : Option Value) (h' : zH), Q' (.inl v) h' → z_J Z mX6_spare R (k + R'.cells) (n + R'.slots) Q 5 ls (v.toList ++ rest) h') (kx : ∀ (E : String) (h' : zH), Q' (.inr E) h' → z_JX Z mX6_spare R (k + R'.cells) (n + R'.slots) Q 2 ls E h') : z_J Z mX6_spare R k n Q 2 ls st h := z_callS (M' := mX6_isDay) dX6_spare_2 rfl cs_X6_96 gw855 ha hR (z_chk1 hc) (z_chk2 hc) (z_chk3 hc) gc kr kx
theorem dX6_spare_5 : decode cX6_spare 5 = .ok (.ifCond .eq 13, 3) := by decide +kernel
theorem iX6_spare_5 (kt : x = 0 → z_J Z mX6_spare R k n Q 18 ls st h) (kf : ¬ x = 0 → z_J Z mX6_spare R k n Q 8 ls st h) : z_J Z mX6_spare R k n Q 5 ls (.int x :: st) h := z_if_eq dX6_spare_5 (tgt := 18) (by decide) rfl kt kf
def bX6_spare_8 : zB := [(8, .iload_n 3, 9, nI 0), (9, .iconst 1, 10, nI 1), (10, .bipush 9, 12, nI 9)]
theorem bX6_spare_8_ok : z_ok cX6_spare 8 bX6_spare_8 12 = true := by decide +kernel
theorem iX6_spare_8 (hr : z_run 5 bX6_spare_8 ls st = some (ls', st')) (g : z_J Z mX6_spare R k n Q 12 ls' st' h) : z_J Z mX6_spare R k n Q 8 ls st h := z_jr bX6_spare_8 bX6_spare_8_ok hr g
theorem dX6_spare_12 : decode cX6_spare 12 = .ok (.invokestatic 72, 3) := by decide +kernel
theorem iX6_spare_12 (ha : z_args 3 st [] = some (As, rest)) (hc : z_chk rest As 3 = true) (hR : z_rm R R' 3 k n) (gc : z_J Z mX6_in R' 0 0 Q' 0 As [] h) (kr : ∀ (v : Option Value) (h' : zH), Q' (.inl v) h' → z_J Z mX6_spare R (k + R'.cells) (n + R'.slots) Q 15 ls (v.toList ++ rest) h') (kx : ∀ (E : String) (h' : zH), Q' (.inr E) h' → z_JX Z mX6_spare R (k + R'.cells) (n + R'.slots) Q 12 ls E h') : z_J Z mX6_spare R k n Q 12 ls st h := z_callS (M' := mX6_in) dX6_spare_12 rfl cs_X6_72 gw801 ha hR (z_chk1 hc) (z_chk2 hc) (z_chk3 hc) gc kr kx
theorem dX6_spare_15 : decode cX6_spare 15 = .ok (.ifCond .ne 7, 3) := by decide +kernel
theorem iX6_spare_15 (kt : ¬ x = 0 → z_J Z mX6_spare R k n Q 22 ls st h) (kf : x = 0 → z_J Z mX6_spare R k n Q 18 ls st h) : z_J Z mX6_spare R k n Q 15 ls (.int x :: st) h := z_if_ne dX6_spare_15 (tgt := 22) (by decide) rfl kt kf
def bX6_spare_18 : zB := [(18, .iconst 1, 19, nI 1), (19, .goto 15, 34, nI 0)]
theorem bX6_spare_18_ok : z_ok cX6_spare 18 bX6_spare_18 34 = true := by decide +kernel
theorem iX6_spare_18 (hr : z_run 5 bX6_spare_18 ls st = some (ls', st')) (g : z_J Z mX6_spare R k n Q 34 ls' st' h) : z_J Z mX6_spare R k n Q 18 ls st h := z_jr bX6_spare_18 bX6_spare_18_ok hr g
def bX6_spare_22 : zB := [(22, .iload_n 2, 23, nI 0)]
theorem bX6_spare_22_ok : z_ok cX6_spare 22 bX6_spare_22 23 = true := by decide +kernel
theorem iX6_spare_22 (hr : z_run 5 bX6_spare_22 ls st = some (ls', st')) (g : z_J Z mX6_spare R k n Q 23 ls' st' h) : z_J Z mX6_spare R k n Q 22 ls st h := z_jr bX6_spare_22 bX6_spare_22_ok hr g
theorem dX6_spare_23 : decode cX6_spare 23 = .ok (.invokestatic 93, 3) := by decide +kernel
theorem iX6_spare_23 (ha : z_args 1 st [] = some (As, rest)) (hc : z_chk rest As 1 = true) (hR : z_rm R R' 1 k n) (gc : z_J Z mX6_isProduct R' 0 0 Q' 0 As [] h) (kr : ∀ (v : Option Value) (h' : zH), Q' (.inl v) h' → z_J Z mX6_spare R (k + R'.cells) (n + R'.slots) Q 26 ls (v.toList ++ rest) h') (kx : ∀ (E : String) (h' : zH), Q' (.inr E) h' → z_JX Z mX6_spare R (k + R'.cells) (n + R'.slots) Q 23 ls E h') : z_J Z mX6_spare R k n Q 23 ls st h := z_callS (M' := mX6_isProduct) dX6_spare_23 rfl cs_X6_93 gw844 ha hR (z_chk1 hc) (z_chk2 hc) (z_chk3 hc) gc kr kx
theorem dX6_spare_26 : decode cX6_spare 26 = .ok (.ifCond .eq 7, 3) := by decide +kernel
theorem iX6_spare_26 (kt : x = 0 → z_J Z mX6_spare R k n Q 33 ls st h) (kf : ¬ x = 0 → z_J Z mX6_spare R k n Q 29 ls st h) : z_J Z mX6_spare R k n Q 26 ls (.int x :: st) h := z_if_eq dX6_spare_26 (tgt := 33) (by decide) rfl kt kf
def bX6_spare_29 : zB := [(29, .iconst 0, 30, nI 0), (30, .goto 4, 34, nI 0)]
theorem bX6_spare_29_ok : z_ok cX6_spare 29 bX6_spare_29 34 = true := by decide +kernel
theorem iX6_spare_29 (hr : z_run 5 bX6_spare_29 ls st = some (ls', st')) (g : z_J Z mX6_spare R k n Q 34 ls' st' h) : z_J Z mX6_spare R k n Q 29 ls st h := z_jr bX6_spare_29 bX6_spare_29_ok hr g
def bX6_spare_33 : zB := [(33, .iconst 2, 34, nI 2)]
theorem bX6_spare_33_ok : z_ok cX6_spare 33 bX6_spare_33 34 = true := by decide +kernel
theorem iX6_spare_33 (hr : z_run 5 bX6_spare_33 ls st = some (ls', st')) (g : z_J Z mX6_spare R k n Q 34 ls' st' h) : z_J Z mX6_spare R k n Q 33 ls st h := z_jr bX6_spare_33 bX6_spare_33_ok hr g
theorem dX6_spare_34 : decode cX6_spare 34 = .ok (.putfield 68, 3) := by decide +kernel
theorem iX6_spare_34 (hh : h r = some (a, .inr (7, fs))) (hl : Nat.blt 0 fs.length = true) (g : z_J Z mX6_spare R k n Q 37 ls st (z_u h r (a, .inr (7, fs.set 0 (.int x))))) : z_J Z mX6_spare R k n Q 34 ls ((.int x) :: .ref a :: st) h := z_put dX6_spare_34 rfl fl_X6_68 fw_X6_0 rfl hh rfl rfl (by simpa [Nat.blt_eq] using hl) g
def bX6_spare_37 : zB := [(37, .aload_n 0, 38, nI 0)]
theorem bX6_spare_37_ok : z_ok cX6_spare 37 bX6_spare_37 38 = true := by decide +kernel
theorem iX6_spare_37 (hr : z_run 5 bX6_spare_37 ls st = some (ls', st')) (g : z_J Z mX6_spare R k n Q 38 ls' st' h) : z_J Z mX6_spare R k n Q 37 ls st h := z_jr bX6_spare_37 bX6_spare_37_ok hr g
theorem dX6_spare_38 : decode cX6_spare 38 = .ok (.getfield 68, 3) := by decide +kernel
theorem iX6_spare_38 (hh : h r = some (a, .inr (7, fs))) (hv : fs[0]? = some v) (g : z_J Z mX6_spare R k n Q 41 ls (v :: st) h) : z_J Z mX6_spare R k n Q 38 ls (.ref a :: st) h := z_get dX6_spare_38 rfl fl_X6_68 hh hv g
theorem dX6_spare_41 : decode cX6_spare 41 = .ok (.ifCond .le 5, 3) := by decide +kernel
theorem iX6_spare_41 (kt : x ≤ 0 → z_J Z mX6_spare R k n Q 46 ls st h) (kf : ¬ x ≤ 0 → z_J Z mX6_spare R k n Q 44 ls st h) : z_J Z mX6_spare R k n Q 41 ls (.int x :: st) h := z_if_le dX6_spare_41 (tgt := 46) (by decide) rfl kt kf
def bX6_spare_44 : zB := [(44, .iconst 0, 45, nI 0)]
theorem bX6_spare_44_ok : z_ok cX6_spare 44 bX6_spare_44 45 = true := by decide +kernel
theorem iX6_spare_44 (hr : z_run 5 bX6_spare_44 ls st = some (ls', st')) (g : z_J Z mX6_spare R k n Q 45 ls' st' h) : z_J Z mX6_spare R k n Q 44 ls st h := z_jr bX6_spare_44 bX6_spare_44_ok hr g
theorem dX6_spare_45 : decode cX6_spare 45 = .ok (.ireturn, 1) := by decide +kernel
theorem iX6_spare_45 (hk : k ≤ R.cells) (hs : n ≤ R.slots) (hq : Q (.inl (some (.int x))) h) : z_J Z mX6_spare R k n Q 45 ls [.int x] h := z_iret (ty := .int) dX6_spare_45 rfl rfl hk hs hq
def bX6_spare_46 : zB := [(46, .aload_n 0, 47, nI 0), (47, .iload_n 1, 48, nI 0)]
theorem bX6_spare_46_ok : z_ok cX6_spare 46 bX6_spare_46 48 = true := by decide +kernel
theorem iX6_spare_46 (hr : z_run 5 bX6_spare_46 ls st = some (ls', st')) (g : z_J Z mX6_spare R k n Q 48 ls' st' h) : z_J Z mX6_spare R k n Q 46 ls st h := z_jr bX6_spare_46 bX6_spare_46_ok hr g
theorem dX6_spare_48 : decode cX6_spare 48 = .ok (.invokevirtual 138, 3) := by decide +kernel
theorem iX6_spare_48 (ha : z_args 1 st [] = some (As, .ref b :: rest)) (hc : z_chk rest (.ref b :: As) 5 = true) (hh : h r = some (b, .inr (7, fs))) (hR : z_rm R R' 5 k n) (gc : z_J Z mX6_laysGets R' 0 0 Q' 0 (.ref b :: As) [] h) (kr : ∀ (v : Option Value) (h' : zH), Q' (.inl v) h' → z_J Z mX6_spare R (k + R'.cells) (n + R'.slots) Q 51 ls (v.toList ++ rest) h') (kx : ∀ (E : String) (h' : zH), Q' (.inr E) h' → z_JX Z mX6_spare R (k + R'.cells) (n + R'.slots) Q 48 ls E h') : z_J Z mX6_spare R k n Q 48 ls st h := z_callV (M' := mX6_laysGets) dX6_spare_48 rfl cs_X6_138 rfl gw906 gwp25 ha hh (ci := 7) rfl hR (z_chk1 hc) (z_chk2 hc) (z_chk3 hc) gc kr kx
def bX6_spare_51 : zB := [(51, .istore 4, 53, nI 0), (53, .aload_n 0, 54, nI 0), (54, .aload_n 0, 55, nI 0), (55, .iload_n 1, 56, nI 0), (56, .iload_n 2, 57, nI 0), (57, .iload_n 3, 58, nI 0)]
theorem bX6_spare_51_ok : z_ok cX6_spare 51 bX6_spare_51 58 = true := by decide +kernel
theorem iX6_spare_51 (hr : z_run 5 bX6_spare_51 ls st = some (ls', st')) (g : z_J Z mX6_spare R k n Q 58 ls' st' h) : z_J Z mX6_spare R k n Q 51 ls st h := z_jr bX6_spare_51 bX6_spare_51_ok hr g
theorem dX6_spare_58 : decode cX6_spare 58 = .ok (.invokevirtual 127, 3) := by decide +kernel
theorem iX6_spare_58 (ha : z_args 3 st [] = some (As, .ref b :: rest)) (hc : z_chk rest (.ref b :: As) 7 = true) (hh : h r = some (b, .inr (7, fs))) (hR : z_rm R R' 7 k n) (gc : z_J Z mX6_rightsFor R' 0 0 Q' 0 (.ref b :: As) [] h) (kr : ∀ (v : Option Value) (h' : zH), Q' (.inl v) h' → z_J Z mX6_spare R (k + R'.cells) (n + R'.slots) Q 61 ls (v.toList ++ rest) h') (kx : ∀ (E : String) (h' : zH), Q' (.inr E) h' → z_JX Z mX6_spare R (k + R'.cells) (n + R'.slots) Q 58 ls E h') : z_J Z mX6_spare R k n Q 58 ls st h := z_callV (M' := mX6_rightsFor) dX6_spare_58 rfl cs_X6_127 rfl gw914 gwp27 ha hh (ci := 7) rfl hR (z_chk1 hc) (z_chk2 hc) (z_chk3 hc) gc kr kx
theorem dX6_spare_61 : decode cX6_spare 61 = .ok (.ldc 144, 2) := by decide +kernel
-- no row for .ldc 144 at 61
theorem dX6_spare_63 : decode cX6_spare 63 = .ok (.invokevirtual 131, 3) := by decide +kernel
theorem iX6_spare_63 (ha : z_args 2 st [] = some (As, .ref b :: rest)) (hc : z_chk rest (.ref b :: As) 4 = true) (hh : h r = some (b, .inr (7, fs))) (hR : z_rm R R' 4 k n) (gc : z_J Z mX6_serves R' 0 0 Q' 0 (.ref b :: As) [] h) (kr : ∀ (v : Option Value) (h' : zH), Q' (.inl v) h' → z_J Z mX6_spare R (k + R'.cells) (n + R'.slots) Q 66 ls (v.toList ++ rest) h') (kx : ∀ (E : String) (h' : zH), Q' (.inr E) h' → z_JX Z mX6_spare R (k + R'.cells) (n + R'.slots) Q 63 ls E h') : z_J Z mX6_spare R k n Q 63 ls st h := z_callV (M' := mX6_serves) dX6_spare_63 rfl cs_X6_131 rfl gw918 gwp28 ha hh (ci := 7) rfl hR (z_chk1 hc) (z_chk2 hc) (z_chk3 hc) gc kr kx
def bX6_spare_66 : zB := [(66, .iload 4, 68, nI 0), (68, .isub, 69, nI 0)]
theorem bX6_spare_66_ok : z_ok cX6_spare 66 bX6_spare_66 69 = true := by decide +kernel
theorem iX6_spare_66 (hr : z_run 5 bX6_spare_66 ls st = some (ls', st')) (g : z_J Z mX6_spare R k n Q 69 ls' st' h) : z_J Z mX6_spare R k n Q 66 ls st h := z_jr bX6_spare_66 bX6_spare_66_ok hr g
theorem dX6_spare_69 : decode cX6_spare 69 = .ok (.ireturn, 1) := by decide +kernel
theorem iX6_spare_69 (hk : k ≤ R.cells) (hs : n ≤ R.slots) (hq : Q (.inl (some (.int x))) h) : z_J Z mX6_spare R k n Q 69 ls [.int x] h := z_iret (ty := .int) dX6_spare_69 rfl rfl hk hs hq
/-! X6_most -/
def bX6_most_0 : zB := [(0, .aload_n 0, 1, nI 0), (1, .iload_n 1, 2, nI 0)]
theorem bX6_most_0_ok : z_ok cX6_most 0 bX6_most_0 2 = true := by decide +kernel
theorem iX6_most_0 (hr : z_run 7 bX6_most_0 ls st = some (ls', st')) (g : z_J Z mX6_most R k n Q 2 ls' st' h) : z_J Z mX6_most R k n Q 0 ls st h := z_jr bX6_most_0 bX6_most_0_ok hr g
theorem dX6_most_2 : decode cX6_most 2 = .ok (.invokestatic 93, 3) := by decide +kernel
theorem iX6_most_2 (ha : z_args 1 st [] = some (As, rest)) (hc : z_chk rest As 1 = true) (hR : z_rm R R' 1 k n) (gc : z_J Z mX6_isProduct R' 0 0 Q' 0 As [] h) (kr : ∀ (v : Option Value) (h' : zH), Q' (.inl v) h' → z_J Z mX6_most R (k + R'.cells) (n + R'.slots) Q 5 ls (v.toList ++ rest) h') (kx : ∀ (E : String) (h' : zH), Q' (.inr E) h' → z_JX Z mX6_most R (k + R'.cells) (n + R'.slots) Q 2 ls E h') : z_J Z mX6_most R k n Q 2 ls st h := z_callS (M' := mX6_isProduct) dX6_most_2 rfl cs_X6_93 gw844 ha hR (z_chk1 hc) (z_chk2 hc) (z_chk3 hc) gc kr kx
theorem dX6_most_5 : decode cX6_most 5 = .ok (.ifCond .ne 7, 3) := by decide +kernel
theorem iX6_most_5 (kt : ¬ x = 0 → z_J Z mX6_most R k n Q 12 ls st h) (kf : x = 0 → z_J Z mX6_most R k n Q 8 ls st h) : z_J Z mX6_most R k n Q 5 ls (.int x :: st) h := z_if_ne dX6_most_5 (tgt := 12) (by decide) rfl kt kf
def bX6_most_8 : zB := [(8, .iconst 1, 9, nI 1), (9, .goto 18, 27, nI 0)]
theorem bX6_most_8_ok : z_ok cX6_most 8 bX6_most_8 27 = true := by decide +kernel
theorem iX6_most_8 (hr : z_run 7 bX6_most_8 ls st = some (ls', st')) (g : z_J Z mX6_most R k n Q 27 ls' st' h) : z_J Z mX6_most R k n Q 8 ls st h := z_jr bX6_most_8 bX6_most_8_ok hr g
def bX6_most_12 : zB := [(12, .iload_n 2, 13, nI 0), (13, .iconst 0, 14, nI 0), (14, .bipush 23, 16, nI 23)]
theorem bX6_most_12_ok : z_ok cX6_most 12 bX6_most_12 16 = true := by decide +kernel
theorem iX6_most_12 (hr : z_run 7 bX6_most_12 ls st = some (ls', st')) (g : z_J Z mX6_most R k n Q 16 ls' st' h) : z_J Z mX6_most R k n Q 12 ls st h := z_jr bX6_most_12 bX6_most_12_ok hr g
theorem dX6_most_16 : decode cX6_most 16 = .ok (.invokestatic 72, 3) := by decide +kernel
theorem iX6_most_16 (ha : z_args 3 st [] = some (As, rest)) (hc : z_chk rest As 3 = true) (hR : z_rm R R' 3 k n) (gc : z_J Z mX6_in R' 0 0 Q' 0 As [] h) (kr : ∀ (v : Option Value) (h' : zH), Q' (.inl v) h' → z_J Z mX6_most R (k + R'.cells) (n + R'.slots) Q 19 ls (v.toList ++ rest) h') (kx : ∀ (E : String) (h' : zH), Q' (.inr E) h' → z_JX Z mX6_most R (k + R'.cells) (n + R'.slots) Q 16 ls E h') : z_J Z mX6_most R k n Q 16 ls st h := z_callS (M' := mX6_in) dX6_most_16 rfl cs_X6_72 gw801 ha hR (z_chk1 hc) (z_chk2 hc) (z_chk3 hc) gc kr kx
theorem dX6_most_19 : decode cX6_most 19 = .ok (.ifCond .eq 7, 3) := by decide +kernel
theorem iX6_most_19 (kt : x = 0 → z_J Z mX6_most R k n Q 26 ls st h) (kf : ¬ x = 0 → z_J Z mX6_most R k n Q 22 ls st h) : z_J Z mX6_most R k n Q 19 ls (.int x :: st) h := z_if_eq dX6_most_19 (tgt := 26) (by decide) rfl kt kf
def bX6_most_22 : zB := [(22, .iconst 0, 23, nI 0), (23, .goto 4, 27, nI 0)]
theorem bX6_most_22_ok : z_ok cX6_most 22 bX6_most_22 27 = true := by decide +kernel
theorem iX6_most_22 (hr : z_run 7 bX6_most_22 ls st = some (ls', st')) (g : z_J Z mX6_most R k n Q 27 ls' st' h) : z_J Z mX6_most R k n Q 22 ls st h := z_jr bX6_most_22 bX6_most_22_ok hr g
def bX6_most_26 : zB := [(26, .iconst 2, 27, nI 2)]
theorem bX6_most_26_ok : z_ok cX6_most 26 bX6_most_26 27 = true := by decide +kernel
theorem iX6_most_26 (hr : z_run 7 bX6_most_26 ls st = some (ls', st')) (g : z_J Z mX6_most R k n Q 27 ls' st' h) : z_J Z mX6_most R k n Q 26 ls st h := z_jr bX6_most_26 bX6_most_26_ok hr g
theorem dX6_most_27 : decode cX6_most 27 = .ok (.putfield 68, 3) := by decide +kernel
theorem iX6_most_27 (hh : h r = some (a, .inr (7, fs))) (hl : Nat.blt 0 fs.length = true) (g : z_J Z mX6_most R k n Q 30 ls st (z_u h r (a, .inr (7, fs.set 0 (.int x))))) : z_J Z mX6_most R k n Q 27 ls ((.int x) :: .ref a :: st) h := z_put dX6_most_27 rfl fl_X6_68 fw_X6_0 rfl hh rfl rfl (by simpa [Nat.blt_eq] using hl) g
def bX6_most_30 : zB := [(30, .iconst 0, 31, nI 0), (31, .istore_n 3, 32, nI 0), (32, .bipush 30, 34, nI 30), (34, .iload_n 2, 35, nI 0), (35, .imul, 36, nI 0), (36, .istore 4, 38, nI 0)]
theorem bX6_most_30_ok : z_ok cX6_most 30 bX6_most_30 38 = true := by decide +kernel
theorem iX6_most_30 (hr : z_run 7 bX6_most_30 ls st = some (ls', st')) (g : z_J Z mX6_most R k n Q 38 ls' st' h) : z_J Z mX6_most R k n Q 30 ls st h := z_jr bX6_most_30 bX6_most_30_ok hr g
def bX6_most_38 : zB := [(38, .iload 4, 40, nI 0), (40, .bipush 30, 42, nI 30), (42, .iload_n 2, 43, nI 0), (43, .imul, 44, nI 0), (44, .bipush 30, 46, nI 30), (46, .iadd, 47, nI 0)]
theorem bX6_most_38_ok : z_ok cX6_most 38 bX6_most_38 47 = true := by decide +kernel
theorem iX6_most_38 (hr : z_run 7 bX6_most_38 ls st = some (ls', st')) (g : z_J Z mX6_most R k n Q 47 ls' st' h) : z_J Z mX6_most R k n Q 38 ls st h := z_jr bX6_most_38 bX6_most_38_ok hr g
theorem dX6_most_47 : decode cX6_most 47 = .ok (.if_icmp .ge 83, 3) := by decide +kernel
theorem iX6_most_47 (kt : y ≤ x → z_J Z mX6_most R k n Q 130 ls st h) (kf : ¬ y ≤ x → z_J Z mX6_most R k n Q 50 ls st h) : z_J Z mX6_most R k n Q 47 ls (.int y :: .int x :: st) h := z_ic_ge dX6_most_47 (tgt := 130) (by decide) rfl kt kf
def bX6_most_50 : zB := [(50, .aload_n 0, 51, nI 0)]
theorem bX6_most_50_ok : z_ok cX6_most 50 bX6_most_50 51 = true := by decide +kernel
theorem iX6_most_50 (hr : z_run 7 bX6_most_50 ls st = some (ls', st')) (g : z_J Z mX6_most R k n Q 51 ls' st' h) : z_J Z mX6_most R k n Q 50 ls st h := z_jr bX6_most_50 bX6_most_50_ok hr g
theorem dX6_most_51 : decode cX6_most 51 = .ok (.getfield 68, 3) := by decide +kernel
theorem iX6_most_51 (hh : h r = some (a, .inr (7, fs))) (hv : fs[0]? = some v) (g : z_J Z mX6_most R k n Q 54 ls (v :: st) h) : z_J Z mX6_most R k n Q 51 ls (.ref a :: st) h := z_get dX6_most_51 rfl fl_X6_68 hh hv g
theorem dX6_most_54 : decode cX6_most 54 = .ok (.ifCond .ne 76, 3) := by decide +kernel
theorem iX6_most_54 (kt : ¬ x = 0 → z_J Z mX6_most R k n Q 130 ls st h) (kf : x = 0 → z_J Z mX6_most R k n Q 57 ls st h) : z_J Z mX6_most R k n Q 54 ls (.int x :: st) h := z_if_ne dX6_most_54 (tgt := 130) (by decide) rfl kt kf
def bX6_most_57 : zB := [(57, .aload_n 0, 58, nI 0), (58, .iload 4, 60, nI 0)]
theorem bX6_most_57_ok : z_ok cX6_most 57 bX6_most_57 60 = true := by decide +kernel
theorem iX6_most_57 (hr : z_run 7 bX6_most_57 ls st = some (ls', st')) (g : z_J Z mX6_most R k n Q 60 ls' st' h) : z_J Z mX6_most R k n Q 57 ls st h := z_jr bX6_most_57 bX6_most_57_ok hr g
theorem dX6_most_60 : decode cX6_most 60 = .ok (.invokevirtual 120, 3) := by decide +kernel
theorem iX6_most_60 (ha : z_args 1 st [] = some (As, .ref b :: rest)) (hc : z_chk rest (.ref b :: As) 7 = true) (hh : h r = some (b, .inr (7, fs))) (hR : z_rm R R' 7 k n) (gc : z_J Z mX6_laysNeeds R' 0 0 Q' 0 (.ref b :: As) [] h) (kr : ∀ (v : Option Value) (h' : zH), Q' (.inl v) h' → z_J Z mX6_most R (k + R'.cells) (n + R'.slots) Q 63 ls (v.toList ++ rest) h') (kx : ∀ (E : String) (h' : zH), Q' (.inr E) h' → z_JX Z mX6_most R (k + R'.cells) (n + R'.slots) Q 60 ls E h') : z_J Z mX6_most R k n Q 60 ls st h := z_callV (M' := mX6_laysNeeds) dX6_most_60 rfl cs_X6_120 rfl gw886 gwp23 ha hh (ci := 7) rfl hR (z_chk1 hc) (z_chk2 hc) (z_chk3 hc) gc kr kx
def bX6_most_63 : zB := [(63, .iconst 0, 64, nI 0), (64, .istore 5, 66, nI 0), (66, .iconst 0, 67, nI 0), (67, .istore 6, 69, nI 0)]
theorem bX6_most_63_ok : z_ok cX6_most 63 bX6_most_63 69 = true := by decide +kernel
theorem iX6_most_63 (hr : z_run 7 bX6_most_63 ls st = some (ls', st')) (g : z_J Z mX6_most R k n Q 69 ls' st' h) : z_J Z mX6_most R k n Q 63 ls st h := z_jr bX6_most_63 bX6_most_63_ok hr g
def bX6_most_69 : zB := [(69, .iload 6, 71, nI 0), (71, .aload_n 0, 72, nI 0)]
theorem bX6_most_69_ok : z_ok cX6_most 69 bX6_most_69 72 = true := by decide +kernel
theorem iX6_most_69 (hr : z_run 7 bX6_most_69 ls st = some (ls', st')) (g : z_J Z mX6_most R k n Q 72 ls' st' h) : z_J Z mX6_most R k n Q 69 ls st h := z_jr bX6_most_69 bX6_most_69_ok hr g
theorem dX6_most_72 : decode cX6_most 72 = .ok (.getfield 113, 3) := by decide +kernel
theorem iX6_most_72 (hh : h r = some (a, .inr (7, fs))) (hv : fs[16]? = some v) (g : z_J Z mX6_most R k n Q 75 ls (v :: st) h) : z_J Z mX6_most R k n Q 72 ls (.ref a :: st) h := z_get dX6_most_72 rfl fl_X6_113 hh hv g
theorem dX6_most_75 : decode cX6_most 75 = .ok (.if_icmp .ge 36, 3) := by decide +kernel
theorem iX6_most_75 (kt : y ≤ x → z_J Z mX6_most R k n Q 111 ls st h) (kf : ¬ y ≤ x → z_J Z mX6_most R k n Q 78 ls st h) : z_J Z mX6_most R k n Q 75 ls (.int y :: .int x :: st) h := z_ic_ge dX6_most_75 (tgt := 111) (by decide) rfl kt kf
def bX6_most_78 : zB := [(78, .iload 5, 80, nI 0), (80, .aload_n 0, 81, nI 0)]
theorem bX6_most_78_ok : z_ok cX6_most 78 bX6_most_78 81 = true := by decide +kernel
theorem iX6_most_78 (hr : z_run 7 bX6_most_78 ls st = some (ls', st')) (g : z_J Z mX6_most R k n Q 81 ls' st' h) : z_J Z mX6_most R k n Q 78 ls st h := z_jr bX6_most_78 bX6_most_78_ok hr g
theorem dX6_most_81 : decode cX6_most 81 = .ok (.getfield 53, 3) := by decide +kernel
theorem iX6_most_81 (hh : h r = some (a, .inr (7, fs))) (hv : fs[18]? = some v) (g : z_J Z mX6_most R k n Q 84 ls (v :: st) h) : z_J Z mX6_most R k n Q 81 ls (.ref a :: st) h := z_get dX6_most_81 rfl fl_X6_53 hh hv g
def bX6_most_84 : zB := [(84, .iload 6, 86, nI 0)]
theorem bX6_most_84_ok : z_ok cX6_most 84 bX6_most_84 86 = true := by decide +kernel
theorem iX6_most_84 (hr : z_run 7 bX6_most_84 ls st = some (ls', st')) (g : z_J Z mX6_most R k n Q 86 ls' st' h) : z_J Z mX6_most R k n Q 84 ls st h := z_jr bX6_most_84 bX6_most_84_ok hr g
theorem dX6_most_86 : decode cX6_most 86 = .ok (.iaload, 1) := by decide +kernel
theorem iX6_most_86 {f : Nat → Int32} (hh : h r = some (a, .inl (0, N, .inl f))) (hi : i = nI j) (hj : j < N) (hN : N < 2 ^ 31) (g : z_J Z mX6_most R k n Q 87 ls (.int (f j) :: st) h) : z_J Z mX6_most R k n Q 86 ls (.int i :: .ref a :: st) h := z_iald dX6_most_86 rfl hh hi hj hN g
def bX6_most_87 : zB := [(87, .iload_n 1, 88, nI 0)]
theorem bX6_most_87_ok : z_ok cX6_most 87 bX6_most_87 88 = true := by decide +kernel
theorem iX6_most_87 (hr : z_run 7 bX6_most_87 ls st = some (ls', st')) (g : z_J Z mX6_most R k n Q 88 ls' st' h) : z_J Z mX6_most R k n Q 87 ls st h := z_jr bX6_most_87 bX6_most_87_ok hr g
theorem dX6_most_88 : decode cX6_most 88 = .ok (.if_icmp .ne 13, 3) := by decide +kernel
theorem iX6_most_88 (kt : ¬ x = y → z_J Z mX6_most R k n Q 101 ls st h) (kf : x = y → z_J Z mX6_most R k n Q 91 ls st h) : z_J Z mX6_most R k n Q 88 ls (.int y :: .int x :: st) h := z_ic_ne dX6_most_88 (tgt := 101) (by decide) rfl kt kf
def bX6_most_91 : zB := [(91, .aload_n 0, 92, nI 0)]
theorem bX6_most_91_ok : z_ok cX6_most 91 bX6_most_91 92 = true := by decide +kernel
theorem iX6_most_91 (hr : z_run 7 bX6_most_91 ls st = some (ls', st')) (g : z_J Z mX6_most R k n Q 92 ls' st' h) : z_J Z mX6_most R k n Q 91 ls st h := z_jr bX6_most_91 bX6_most_91_ok hr g
theorem dX6_most_92 : decode cX6_most 92 = .ok (.getfield 59, 3) := by decide +kernel
theorem iX6_most_92 (hh : h r = some (a, .inr (7, fs))) (hv : fs[20]? = some v) (g : z_J Z mX6_most R k n Q 95 ls (v :: st) h) : z_J Z mX6_most R k n Q 92 ls (.ref a :: st) h := z_get dX6_most_92 rfl fl_X6_59 hh hv g
def bX6_most_95 : zB := [(95, .iload 6, 97, nI 0)]
theorem bX6_most_95_ok : z_ok cX6_most 95 bX6_most_95 97 = true := by decide +kernel
theorem iX6_most_95 (hr : z_run 7 bX6_most_95 ls st = some (ls', st')) (g : z_J Z mX6_most R k n Q 97 ls' st' h) : z_J Z mX6_most R k n Q 95 ls st h := z_jr bX6_most_95 bX6_most_95_ok hr g
theorem dX6_most_97 : decode cX6_most 97 = .ok (.iaload, 1) := by decide +kernel
theorem iX6_most_97 {f : Nat → Int32} (hh : h r = some (a, .inl (0, N, .inl f))) (hi : i = nI j) (hj : j < N) (hN : N < 2 ^ 31) (g : z_J Z mX6_most R k n Q 98 ls (.int (f j) :: st) h) : z_J Z mX6_most R k n Q 97 ls (.int i :: .ref a :: st) h := z_iald dX6_most_97 rfl hh hi hj hN g
def bX6_most_98 : zB := [(98, .goto 4, 102, nI 0)]
theorem bX6_most_98_ok : z_ok cX6_most 98 bX6_most_98 102 = true := by decide +kernel
theorem iX6_most_98 (hr : z_run 7 bX6_most_98 ls st = some (ls', st')) (g : z_J Z mX6_most R k n Q 102 ls' st' h) : z_J Z mX6_most R k n Q 98 ls st h := z_jr bX6_most_98 bX6_most_98_ok hr g
def bX6_most_101 : zB := [(101, .iconst 0, 102, nI 0)]
theorem bX6_most_101_ok : z_ok cX6_most 101 bX6_most_101 102 = true := by decide +kernel
theorem iX6_most_101 (hr : z_run 7 bX6_most_101 ls st = some (ls', st')) (g : z_J Z mX6_most R k n Q 102 ls' st' h) : z_J Z mX6_most R k n Q 101 ls st h := z_jr bX6_most_101 bX6_most_101_ok hr g
def bX6_most_102 : zB := [(102, .iadd, 103, nI 0), (103, .istore 5, 105, nI 0), (105, .iinc 6 1, 108, nI 1), (108, .goto (-39), 69, nI 0)]
theorem bX6_most_102_ok : z_ok cX6_most 102 bX6_most_102 69 = true := by decide +kernel
theorem iX6_most_102 (hr : z_run 7 bX6_most_102 ls st = some (ls', st')) (g : z_J Z mX6_most R k n Q 69 ls' st' h) : z_J Z mX6_most R k n Q 102 ls st h := z_jr bX6_most_102 bX6_most_102_ok hr g
def bX6_most_111 : zB := [(111, .iload 5, 113, nI 0), (113, .iload_n 3, 114, nI 0)]
theorem bX6_most_111_ok : z_ok cX6_most 111 bX6_most_111 114 = true := by decide +kernel
theorem iX6_most_111 (hr : z_run 7 bX6_most_111 ls st = some (ls', st')) (g : z_J Z mX6_most R k n Q 114 ls' st' h) : z_J Z mX6_most R k n Q 111 ls st h := z_jr bX6_most_111 bX6_most_111_ok hr g
theorem dX6_most_114 : decode cX6_most 114 = .ok (.if_icmp .le 8, 3) := by decide +kernel
theorem iX6_most_114 (kt : x ≤ y → z_J Z mX6_most R k n Q 122 ls st h) (kf : ¬ x ≤ y → z_J Z mX6_most R k n Q 117 ls st h) : z_J Z mX6_most R k n Q 114 ls (.int y :: .int x :: st) h := z_ic_le dX6_most_114 (tgt := 122) (by decide) rfl kt kf
def bX6_most_117 : zB := [(117, .iload 5, 119, nI 0), (119, .goto 4, 123, nI 0)]
theorem bX6_most_117_ok : z_ok cX6_most 117 bX6_most_117 123 = true := by decide +kernel
theorem iX6_most_117 (hr : z_run 7 bX6_most_117 ls st = some (ls', st')) (g : z_J Z mX6_most R k n Q 123 ls' st' h) : z_J Z mX6_most R k n Q 117 ls st h := z_jr bX6_most_117 bX6_most_117_ok hr g
def bX6_most_122 : zB := [(122, .iload_n 3, 123, nI 0)]
theorem bX6_most_122_ok : z_ok cX6_most 122 bX6_most_122 123 = true := by decide +kernel
theorem iX6_most_122 (hr : z_run 7 bX6_most_122 ls st = some (ls', st')) (g : z_J Z mX6_most R k n Q 123 ls' st' h) : z_J Z mX6_most R k n Q 122 ls st h := z_jr bX6_most_122 bX6_most_122_ok hr g
def bX6_most_123 : zB := [(123, .istore_n 3, 124, nI 0), (124, .iinc 4 1, 127, nI 1), (127, .goto (-89), 38, nI 0)]
theorem bX6_most_123_ok : z_ok cX6_most 123 bX6_most_123 38 = true := by decide +kernel
theorem iX6_most_123 (hr : z_run 7 bX6_most_123 ls st = some (ls', st')) (g : z_J Z mX6_most R k n Q 38 ls' st' h) : z_J Z mX6_most R k n Q 123 ls st h := z_jr bX6_most_123 bX6_most_123_ok hr g
def bX6_most_130 : zB := [(130, .iload_n 3, 131, nI 0)]
theorem bX6_most_130_ok : z_ok cX6_most 130 bX6_most_130 131 = true := by decide +kernel
theorem iX6_most_130 (hr : z_run 7 bX6_most_130 ls st = some (ls', st')) (g : z_J Z mX6_most R k n Q 131 ls' st' h) : z_J Z mX6_most R k n Q 130 ls st h := z_jr bX6_most_130 bX6_most_130_ok hr g
theorem dX6_most_131 : decode cX6_most 131 = .ok (.ireturn, 1) := by decide +kernel
theorem iX6_most_131 (hk : k ≤ R.cells) (hs : n ≤ R.slots) (hq : Q (.inl (some (.int x))) h) : z_J Z mX6_most R k n Q 131 ls [.int x] h := z_iret (ty := .int) dX6_most_131 rfl rfl hk hs hq
end ZY
