section ZL
variable {Z : zZ} {R R' : Room} {k n : Nat} {Q Q' : zO → zH → Prop} {ls ls' st st' As rest : List Value} {h : zH} {a b r rv j N : Nat} {fs vs : List Value} {v : Value} {x y i : Int32}
/-! L_cell -/
def bL_cell_0 : zB := [(0, .iload_n 1, 1, nI 0), (1, .aload_n 0, 2, nI 0)]
theorem bL_cell_0_ok : z_ok cL_cell 0 bL_cell_0 2 = true := by decide +kernel
theorem iL_cell_0 (hr : z_run 2 bL_cell_0 ls st = some (ls', st')) (g : z_J Z mL_cell R k n Q 2 ls' st' h) : z_J Z mL_cell R k n Q 0 ls st h := z_jr bL_cell_0 bL_cell_0_ok hr g
theorem dL_cell_2 : decode cL_cell 2 = .ok (.arraylength, 1) := by decide +kernel
theorem iL_cell_2 (g : z_J Z mL_cell R k n Q 3 ls (.int (nI Z.2.1) :: st) h) : z_J Z mL_cell R k n Q 2 ls (.ref Z.1 :: st) h := z_slen dL_cell_2 rfl g
theorem dL_cell_3 : decode cL_cell 3 = .ok (.if_icmp .ge 9, 3) := by decide +kernel
theorem iL_cell_3 (kt : y ≤ x → z_J Z mL_cell R k n Q 12 ls st h) (kf : ¬ y ≤ x → z_J Z mL_cell R k n Q 6 ls st h) : z_J Z mL_cell R k n Q 3 ls (.int y :: .int x :: st) h := z_ic_ge dL_cell_3 (tgt := 12) (by decide) rfl kt kf
def bL_cell_6 : zB := [(6, .aload_n 0, 7, nI 0), (7, .iload_n 1, 8, nI 0)]
theorem bL_cell_6_ok : z_ok cL_cell 6 bL_cell_6 8 = true := by decide +kernel
theorem iL_cell_6 (hr : z_run 2 bL_cell_6 ls st = some (ls', st')) (g : z_J Z mL_cell R k n Q 8 ls' st' h) : z_J Z mL_cell R k n Q 6 ls st h := z_jr bL_cell_6 bL_cell_6_ok hr g
theorem dL_cell_8 : decode cL_cell 8 = .ok (.iaload, 1) := by decide +kernel
theorem iL_cell_8 (hi : i = nI j) (hj : j < Z.2.1) (hN : Z.2.1 < 2 ^ 31) (g : z_J Z mL_cell R k n Q 9 ls (.int (Z.2.2.1 j) :: st) h) : z_J Z mL_cell R k n Q 8 ls (.int i :: .ref Z.1 :: st) h := z_sld dL_cell_8 rfl hi hj hN g
def bL_cell_9 : zB := [(9, .goto 10, 19, nI 0)]
theorem bL_cell_9_ok : z_ok cL_cell 9 bL_cell_9 19 = true := by decide +kernel
theorem iL_cell_9 (hr : z_run 2 bL_cell_9 ls st = some (ls', st')) (g : z_J Z mL_cell R k n Q 19 ls' st' h) : z_J Z mL_cell R k n Q 9 ls st h := z_jr bL_cell_9 bL_cell_9_ok hr g
theorem dL_cell_12 : decode cL_cell 12 = .ok (.ldc 7, 2) := by decide +kernel
theorem iL_cell_12 (g : z_J Z mL_cell R k n Q 14 ls (.int (1171505127 : Int32) :: st) h) : z_J Z mL_cell R k n Q 12 ls st h := z_ldcI dL_cell_12 rfl gw166 g
def bL_cell_14 : zB := [(14, .iload_n 1, 15, nI 0), (15, .bipush 8, 17, nI 8), (17, .iadd, 18, nI 0), (18, .imul, 19, nI 0)]
theorem bL_cell_14_ok : z_ok cL_cell 14 bL_cell_14 19 = true := by decide +kernel
theorem iL_cell_14 (hr : z_run 2 bL_cell_14 ls st = some (ls', st')) (g : z_J Z mL_cell R k n Q 19 ls' st' h) : z_J Z mL_cell R k n Q 14 ls st h := z_jr bL_cell_14 bL_cell_14_ok hr g
theorem dL_cell_19 : decode cL_cell 19 = .ok (.ireturn, 1) := by decide +kernel
theorem iL_cell_19 (hk : k ≤ R.cells) (hs : n ≤ R.slots) (hq : Q (.inl (some (.int x))) h) : z_J Z mL_cell R k n Q 19 ls [.int x] h := z_iret (ty := .int) dL_cell_19 rfl rfl hk hs hq
/-! L_low -/
def bL_low_0 : zB := [(0, .iload_n 0, 1, nI 0), (1, .iconst 1, 2, nI 1)]
theorem bL_low_0_ok : z_ok cL_low 0 bL_low_0 2 = true := by decide +kernel
theorem iL_low_0 (hr : z_run 2 bL_low_0 ls st = some (ls', st')) (g : z_J Z mL_low R k n Q 2 ls' st' h) : z_J Z mL_low R k n Q 0 ls st h := z_jr bL_low_0 bL_low_0_ok hr g
theorem dL_low_2 : decode cL_low 2 = .ok (.iushr, 1) := by decide +kernel
theorem iL_low_2 (g : z_J Z mL_low R k n Q 3 ls (.int ((x.toUInt32 >>> (y.toUInt32 &&& Int32.toUInt32 31)).toInt32) :: st) h) : z_J Z mL_low R k n Q 2 ls (.int y :: .int x :: st) h := z_iushr dL_low_2 rfl g
def bL_low_3 : zB := [(3, .iload_n 1, 4, nI 0)]
theorem bL_low_3_ok : z_ok cL_low 3 bL_low_3 4 = true := by decide +kernel
theorem iL_low_3 (hr : z_run 2 bL_low_3 ls st = some (ls', st')) (g : z_J Z mL_low R k n Q 4 ls' st' h) : z_J Z mL_low R k n Q 3 ls st h := z_jr bL_low_3 bL_low_3_ok hr g
theorem dL_low_4 : decode cL_low 4 = .ok (.irem, 1) := by decide +kernel
theorem iL_low_4 (hy : ¬ y = 0) (g : z_J Z mL_low R k n Q 5 ls (.int (x - x / y * y) :: st) h) : z_J Z mL_low R k n Q 4 ls (.int y :: .int x :: st) h := z_irem dL_low_4 rfl hy g
theorem dL_low_5 : decode cL_low 5 = .ok (.ireturn, 1) := by decide +kernel
theorem iL_low_5 (hk : k ≤ R.cells) (hs : n ≤ R.slots) (hq : Q (.inl (some (.int x))) h) : z_J Z mL_low R k n Q 5 ls [.int x] h := z_iret (ty := .int) dL_low_5 rfl rfl hk hs hq
/-! L_addRight -/
def bL_addRight_0 : zB := [(0, .aload_n 0, 1, nI 0), (1, .iload_n 1, 2, nI 0), (2, .iload_n 2, 3, nI 0), (3, .iload_n 3, 4, nI 0), (4, .iload 4, 6, nI 0), (6, .iload 5, 8, nI 0)]
theorem bL_addRight_0_ok : z_ok cL_addRight 0 bL_addRight_0 8 = true := by decide +kernel
theorem iL_addRight_0 (hr : z_run 8 bL_addRight_0 ls st = some (ls', st')) (g : z_J Z mL_addRight R k n Q 8 ls' st' h) : z_J Z mL_addRight R k n Q 0 ls st h := z_jr bL_addRight_0 bL_addRight_0_ok hr g
theorem dL_addRight_8 : decode cL_addRight 8 = .ok (.invokevirtual 8, 3) := by decide +kernel
theorem iL_addRight_8 (ha : z_args 5 st [] = some (As, .ref b :: rest)) (hc : z_chk rest (.ref b :: As) 6 = true) (hh : h r = some (b, .inr (6, fs))) (hR : z_rm R R' 6 k n) (gc : z_J Z mX5_addRight R' 0 0 Q' 0 (.ref b :: As) [] h) (kr : ∀ (v : Option Value) (h' : zH), Q' (.inl v) h' → z_J Z mL_addRight R (k + R'.cells) (n + R'.slots) Q 11 ls (v.toList ++ rest) h') (kx : ∀ (E : String) (h' : zH), Q' (.inr E) h' → z_JX Z mL_addRight R (k + R'.cells) (n + R'.slots) Q 8 ls E h') : z_J Z mL_addRight R k n Q 8 ls st h := z_callV (M' := mX5_addRight) dL_addRight_8 rfl cs_L_8 rfl gw179 gw180 ha hh (ci := 6) rfl hR (z_chk1 hc) (z_chk2 hc) (z_chk3 hc) gc kr kx
def bL_addRight_11 : zB := [(11, .istore 6, 13, nI 0), (13, .goto 13, 26, nI 0)]
theorem bL_addRight_11_ok : z_ok cL_addRight 11 bL_addRight_11 26 = true := by decide +kernel
theorem iL_addRight_11 (hr : z_run 8 bL_addRight_11 ls st = some (ls', st')) (g : z_J Z mL_addRight R k n Q 26 ls' st' h) : z_J Z mL_addRight R k n Q 11 ls st h := z_jr bL_addRight_11 bL_addRight_11_ok hr g
def bL_addRight_16 : zB := [(16, .astore 7, 18, nI 0), (18, .bipush (-72), 20, -72)]
theorem bL_addRight_16_ok : z_ok cL_addRight 16 bL_addRight_16 20 = true := by decide +kernel
theorem iL_addRight_16 (hr : z_run 8 bL_addRight_16 ls st = some (ls', st')) (g : z_J Z mL_addRight R k n Q 20 ls' st' h) : z_J Z mL_addRight R k n Q 16 ls st h := z_jr bL_addRight_16 bL_addRight_16_ok hr g
theorem dL_addRight_20 : decode cL_addRight 20 = .ok (.ireturn, 1) := by decide +kernel
theorem iL_addRight_20 (hk : k ≤ R.cells) (hs : n ≤ R.slots) (hq : Q (.inl (some (.int x))) h) : z_J Z mL_addRight R k n Q 20 ls [.int x] h := z_iret (ty := .int) dL_addRight_20 rfl rfl hk hs hq
def bL_addRight_21 : zB := [(21, .astore 7, 23, nI 0), (23, .bipush (-73), 25, -73)]
theorem bL_addRight_21_ok : z_ok cL_addRight 21 bL_addRight_21 25 = true := by decide +kernel
theorem iL_addRight_21 (hr : z_run 8 bL_addRight_21 ls st = some (ls', st')) (g : z_J Z mL_addRight R k n Q 25 ls' st' h) : z_J Z mL_addRight R k n Q 21 ls st h := z_jr bL_addRight_21 bL_addRight_21_ok hr g
theorem dL_addRight_25 : decode cL_addRight 25 = .ok (.ireturn, 1) := by decide +kernel
theorem iL_addRight_25 (hk : k ≤ R.cells) (hs : n ≤ R.slots) (hq : Q (.inl (some (.int x))) h) : z_J Z mL_addRight R k n Q 25 ls [.int x] h := z_iret (ty := .int) dL_addRight_25 rfl rfl hk hs hq
def bL_addRight_26 : zB := [(26, .iload 6, 28, nI 0)]
theorem bL_addRight_26_ok : z_ok cL_addRight 26 bL_addRight_26 28 = true := by decide +kernel
theorem iL_addRight_26 (hr : z_run 8 bL_addRight_26 ls st = some (ls', st')) (g : z_J Z mL_addRight R k n Q 28 ls' st' h) : z_J Z mL_addRight R k n Q 26 ls st h := z_jr bL_addRight_26 bL_addRight_26_ok hr g
theorem dL_addRight_28 : decode cL_addRight 28 = .ok (.ireturn, 1) := by decide +kernel
theorem iL_addRight_28 (hk : k ≤ R.cells) (hs : n ≤ R.slots) (hq : Q (.inl (some (.int x))) h) : z_J Z mL_addRight R k n Q 28 ls [.int x] h := z_iret (ty := .int) dL_addRight_28 rfl rfl hk hs hq
/-! L_upgrade -/
def bL_upgrade_0 : zB := [(0, .aload_n 0, 1, nI 0), (1, .iload_n 1, 2, nI 0), (2, .iload_n 2, 3, nI 0)]
theorem bL_upgrade_0_ok : z_ok cL_upgrade 0 bL_upgrade_0 3 = true := by decide +kernel
theorem iL_upgrade_0 (hr : z_run 5 bL_upgrade_0 ls st = some (ls', st')) (g : z_J Z mL_upgrade R k n Q 3 ls' st' h) : z_J Z mL_upgrade R k n Q 0 ls st h := z_jr bL_upgrade_0 bL_upgrade_0_ok hr g
theorem dL_upgrade_3 : decode cL_upgrade 3 = .ok (.invokevirtual 18, 3) := by decide +kernel
theorem iL_upgrade_3 (ha : z_args 2 st [] = some (As, .ref b :: rest)) (hc : z_chk rest (.ref b :: As) 5 = true) (hh : h r = some (b, .inr (6, fs))) (hR : z_rm R R' 5 k n) (gc : z_J Z mX5_upgrade R' 0 0 Q' 0 (.ref b :: As) [] h) (kr : ∀ (v : Option Value) (h' : zH), Q' (.inl v) h' → z_J Z mL_upgrade R (k + R'.cells) (n + R'.slots) Q 6 ls (v.toList ++ rest) h') (kx : ∀ (E : String) (h' : zH), Q' (.inr E) h' → z_JX Z mL_upgrade R (k + R'.cells) (n + R'.slots) Q 3 ls E h') : z_J Z mL_upgrade R k n Q 3 ls st h := z_callV (M' := mX5_upgrade) dL_upgrade_3 rfl cs_L_18 rfl gw359 gw360 ha hh (ci := 6) rfl hR (z_chk1 hc) (z_chk2 hc) (z_chk3 hc) gc kr kx
def bL_upgrade_6 : zB := [(6, .istore_n 3, 7, nI 0), (7, .goto 18, 25, nI 0)]
theorem bL_upgrade_6_ok : z_ok cL_upgrade 6 bL_upgrade_6 25 = true := by decide +kernel
theorem iL_upgrade_6 (hr : z_run 5 bL_upgrade_6 ls st = some (ls', st')) (g : z_J Z mL_upgrade R k n Q 25 ls' st' h) : z_J Z mL_upgrade R k n Q 6 ls st h := z_jr bL_upgrade_6 bL_upgrade_6_ok hr g
def bL_upgrade_10 : zB := [(10, .astore 4, 12, nI 0), (12, .bipush (-71), 14, -71)]
theorem bL_upgrade_10_ok : z_ok cL_upgrade 10 bL_upgrade_10 14 = true := by decide +kernel
theorem iL_upgrade_10 (hr : z_run 5 bL_upgrade_10 ls st = some (ls', st')) (g : z_J Z mL_upgrade R k n Q 14 ls' st' h) : z_J Z mL_upgrade R k n Q 10 ls st h := z_jr bL_upgrade_10 bL_upgrade_10_ok hr g
theorem dL_upgrade_14 : decode cL_upgrade 14 = .ok (.ireturn, 1) := by decide +kernel
theorem iL_upgrade_14 (hk : k ≤ R.cells) (hs : n ≤ R.slots) (hq : Q (.inl (some (.int x))) h) : z_J Z mL_upgrade R k n Q 14 ls [.int x] h := z_iret (ty := .int) dL_upgrade_14 rfl rfl hk hs hq
def bL_upgrade_15 : zB := [(15, .astore 4, 17, nI 0), (17, .bipush (-72), 19, -72)]
theorem bL_upgrade_15_ok : z_ok cL_upgrade 15 bL_upgrade_15 19 = true := by decide +kernel
theorem iL_upgrade_15 (hr : z_run 5 bL_upgrade_15 ls st = some (ls', st')) (g : z_J Z mL_upgrade R k n Q 19 ls' st' h) : z_J Z mL_upgrade R k n Q 15 ls st h := z_jr bL_upgrade_15 bL_upgrade_15_ok hr g
theorem dL_upgrade_19 : decode cL_upgrade 19 = .ok (.ireturn, 1) := by decide +kernel
theorem iL_upgrade_19 (hk : k ≤ R.cells) (hs : n ≤ R.slots) (hq : Q (.inl (some (.int x))) h) : z_J Z mL_upgrade R k n Q 19 ls [.int x] h := z_iret (ty := .int) dL_upgrade_19 rfl rfl hk hs hq
def bL_upgrade_20 : zB := [(20, .astore 4, 22, nI 0), (22, .bipush (-73), 24, -73)]
theorem bL_upgrade_20_ok : z_ok cL_upgrade 20 bL_upgrade_20 24 = true := by decide +kernel
theorem iL_upgrade_20 (hr : z_run 5 bL_upgrade_20 ls st = some (ls', st')) (g : z_J Z mL_upgrade R k n Q 24 ls' st' h) : z_J Z mL_upgrade R k n Q 20 ls st h := z_jr bL_upgrade_20 bL_upgrade_20_ok hr g
theorem dL_upgrade_24 : decode cL_upgrade 24 = .ok (.ireturn, 1) := by decide +kernel
theorem iL_upgrade_24 (hk : k ≤ R.cells) (hs : n ≤ R.slots) (hq : Q (.inl (some (.int x))) h) : z_J Z mL_upgrade R k n Q 24 ls [.int x] h := z_iret (ty := .int) dL_upgrade_24 rfl rfl hk hs hq
def bL_upgrade_25 : zB := [(25, .iload_n 3, 26, nI 0)]
theorem bL_upgrade_25_ok : z_ok cL_upgrade 25 bL_upgrade_25 26 = true := by decide +kernel
theorem iL_upgrade_25 (hr : z_run 5 bL_upgrade_25 ls st = some (ls', st')) (g : z_J Z mL_upgrade R k n Q 26 ls' st' h) : z_J Z mL_upgrade R k n Q 25 ls st h := z_jr bL_upgrade_25 bL_upgrade_25_ok hr g
theorem dL_upgrade_26 : decode cL_upgrade 26 = .ok (.ireturn, 1) := by decide +kernel
theorem iL_upgrade_26 (hk : k ≤ R.cells) (hs : n ≤ R.slots) (hq : Q (.inl (some (.int x))) h) : z_J Z mL_upgrade R k n Q 26 ls [.int x] h := z_iret (ty := .int) dL_upgrade_26 rfl rfl hk hs hq
/-! L_setUnits -/
def bL_setUnits_0 : zB := [(0, .aload_n 0, 1, nI 0), (1, .iload_n 1, 2, nI 0), (2, .iload_n 2, 3, nI 0)]
theorem bL_setUnits_0_ok : z_ok cL_setUnits 0 bL_setUnits_0 3 = true := by decide +kernel
theorem iL_setUnits_0 (hr : z_run 5 bL_setUnits_0 ls st = some (ls', st')) (g : z_J Z mL_setUnits R k n Q 3 ls' st' h) : z_J Z mL_setUnits R k n Q 0 ls st h := z_jr bL_setUnits_0 bL_setUnits_0_ok hr g
theorem dL_setUnits_3 : decode cL_setUnits 3 = .ok (.invokevirtual 24, 3) := by decide +kernel
theorem iL_setUnits_3 (ha : z_args 2 st [] = some (As, .ref b :: rest)) (hc : z_chk rest (.ref b :: As) 5 = true) (hh : h r = some (b, .inr (6, fs))) (hR : z_rm R R' 5 k n) (gc : z_J Z mX5_setUnits R' 0 0 Q' 0 (.ref b :: As) [] h) (kr : ∀ (v : Option Value) (h' : zH), Q' (.inl v) h' → z_J Z mL_setUnits R (k + R'.cells) (n + R'.slots) Q 6 ls (v.toList ++ rest) h') (kx : ∀ (E : String) (h' : zH), Q' (.inr E) h' → z_JX Z mL_setUnits R (k + R'.cells) (n + R'.slots) Q 3 ls E h') : z_J Z mL_setUnits R k n Q 3 ls st h := z_callV (M' := mX5_setUnits) dL_setUnits_3 rfl cs_L_24 rfl gw401 gw402 ha hh (ci := 6) rfl hR (z_chk1 hc) (z_chk2 hc) (z_chk3 hc) gc kr kx
def bL_setUnits_6 : zB := [(6, .istore_n 3, 7, nI 0), (7, .goto 13, 20, nI 0)]
theorem bL_setUnits_6_ok : z_ok cL_setUnits 6 bL_setUnits_6 20 = true := by decide +kernel
theorem iL_setUnits_6 (hr : z_run 5 bL_setUnits_6 ls st = some (ls', st')) (g : z_J Z mL_setUnits R k n Q 20 ls' st' h) : z_J Z mL_setUnits R k n Q 6 ls st h := z_jr bL_setUnits_6 bL_setUnits_6_ok hr g
def bL_setUnits_10 : zB := [(10, .astore 4, 12, nI 0), (12, .bipush (-71), 14, -71)]
theorem bL_setUnits_10_ok : z_ok cL_setUnits 10 bL_setUnits_10 14 = true := by decide +kernel
theorem iL_setUnits_10 (hr : z_run 5 bL_setUnits_10 ls st = some (ls', st')) (g : z_J Z mL_setUnits R k n Q 14 ls' st' h) : z_J Z mL_setUnits R k n Q 10 ls st h := z_jr bL_setUnits_10 bL_setUnits_10_ok hr g
theorem dL_setUnits_14 : decode cL_setUnits 14 = .ok (.ireturn, 1) := by decide +kernel
theorem iL_setUnits_14 (hk : k ≤ R.cells) (hs : n ≤ R.slots) (hq : Q (.inl (some (.int x))) h) : z_J Z mL_setUnits R k n Q 14 ls [.int x] h := z_iret (ty := .int) dL_setUnits_14 rfl rfl hk hs hq
def bL_setUnits_15 : zB := [(15, .astore 4, 17, nI 0), (17, .bipush (-72), 19, -72)]
theorem bL_setUnits_15_ok : z_ok cL_setUnits 15 bL_setUnits_15 19 = true := by decide +kernel
theorem iL_setUnits_15 (hr : z_run 5 bL_setUnits_15 ls st = some (ls', st')) (g : z_J Z mL_setUnits R k n Q 19 ls' st' h) : z_J Z mL_setUnits R k n Q 15 ls st h := z_jr bL_setUnits_15 bL_setUnits_15_ok hr g
theorem dL_setUnits_19 : decode cL_setUnits 19 = .ok (.ireturn, 1) := by decide +kernel
theorem iL_setUnits_19 (hk : k ≤ R.cells) (hs : n ≤ R.slots) (hq : Q (.inl (some (.int x))) h) : z_J Z mL_setUnits R k n Q 19 ls [.int x] h := z_iret (ty := .int) dL_setUnits_19 rfl rfl hk hs hq
def bL_setUnits_20 : zB := [(20, .iload_n 3, 21, nI 0)]
theorem bL_setUnits_20_ok : z_ok cL_setUnits 20 bL_setUnits_20 21 = true := by decide +kernel
theorem iL_setUnits_20 (hr : z_run 5 bL_setUnits_20 ls st = some (ls', st')) (g : z_J Z mL_setUnits R k n Q 21 ls' st' h) : z_J Z mL_setUnits R k n Q 20 ls st h := z_jr bL_setUnits_20 bL_setUnits_20_ok hr g
theorem dL_setUnits_21 : decode cL_setUnits 21 = .ok (.ireturn, 1) := by decide +kernel
theorem iL_setUnits_21 (hk : k ≤ R.cells) (hs : n ≤ R.slots) (hq : Q (.inl (some (.int x))) h) : z_J Z mL_setUnits R k n Q 21 ls [.int x] h := z_iret (ty := .int) dL_setUnits_21 rfl rfl hk hs hq
/-! L_addMachine -/
def bL_addMachine_0 : zB := [(0, .aload_n 0, 1, nI 0), (1, .iload_n 1, 2, nI 0), (2, .iload_n 2, 3, nI 0)]
theorem bL_addMachine_0_ok : z_ok cL_addMachine 0 bL_addMachine_0 3 = true := by decide +kernel
theorem iL_addMachine_0 (hr : z_run 5 bL_addMachine_0 ls st = some (ls', st')) (g : z_J Z mL_addMachine R k n Q 3 ls' st' h) : z_J Z mL_addMachine R k n Q 0 ls st h := z_jr bL_addMachine_0 bL_addMachine_0_ok hr g
theorem dL_addMachine_3 : decode cL_addMachine 3 = .ok (.invokevirtual 27, 3) := by decide +kernel
theorem iL_addMachine_3 (ha : z_args 2 st [] = some (As, .ref b :: rest)) (hc : z_chk rest (.ref b :: As) 4 = true) (hh : h r = some (b, .inr (6, fs))) (hR : z_rm R R' 4 k n) (gc : z_J Z mX5_addMachine R' 0 0 Q' 0 (.ref b :: As) [] h) (kr : ∀ (v : Option Value) (h' : zH), Q' (.inl v) h' → z_J Z mL_addMachine R (k + R'.cells) (n + R'.slots) Q 6 ls (v.toList ++ rest) h') (kx : ∀ (E : String) (h' : zH), Q' (.inr E) h' → z_JX Z mL_addMachine R (k + R'.cells) (n + R'.slots) Q 3 ls E h') : z_J Z mL_addMachine R k n Q 3 ls st h := z_callV (M' := mX5_addMachine) dL_addMachine_3 rfl cs_L_27 rfl gw411 gw412 ha hh (ci := 6) rfl hR (z_chk1 hc) (z_chk2 hc) (z_chk3 hc) gc kr kx
def bL_addMachine_6 : zB := [(6, .istore_n 3, 7, nI 0), (7, .goto 18, 25, nI 0)]
theorem bL_addMachine_6_ok : z_ok cL_addMachine 6 bL_addMachine_6 25 = true := by decide +kernel
theorem iL_addMachine_6 (hr : z_run 5 bL_addMachine_6 ls st = some (ls', st')) (g : z_J Z mL_addMachine R k n Q 25 ls' st' h) : z_J Z mL_addMachine R k n Q 6 ls st h := z_jr bL_addMachine_6 bL_addMachine_6_ok hr g
def bL_addMachine_10 : zB := [(10, .astore 4, 12, nI 0), (12, .bipush (-71), 14, -71)]
theorem bL_addMachine_10_ok : z_ok cL_addMachine 10 bL_addMachine_10 14 = true := by decide +kernel
theorem iL_addMachine_10 (hr : z_run 5 bL_addMachine_10 ls st = some (ls', st')) (g : z_J Z mL_addMachine R k n Q 14 ls' st' h) : z_J Z mL_addMachine R k n Q 10 ls st h := z_jr bL_addMachine_10 bL_addMachine_10_ok hr g
theorem dL_addMachine_14 : decode cL_addMachine 14 = .ok (.ireturn, 1) := by decide +kernel
theorem iL_addMachine_14 (hk : k ≤ R.cells) (hs : n ≤ R.slots) (hq : Q (.inl (some (.int x))) h) : z_J Z mL_addMachine R k n Q 14 ls [.int x] h := z_iret (ty := .int) dL_addMachine_14 rfl rfl hk hs hq
def bL_addMachine_15 : zB := [(15, .astore 4, 17, nI 0), (17, .bipush (-72), 19, -72)]
theorem bL_addMachine_15_ok : z_ok cL_addMachine 15 bL_addMachine_15 19 = true := by decide +kernel
theorem iL_addMachine_15 (hr : z_run 5 bL_addMachine_15 ls st = some (ls', st')) (g : z_J Z mL_addMachine R k n Q 19 ls' st' h) : z_J Z mL_addMachine R k n Q 15 ls st h := z_jr bL_addMachine_15 bL_addMachine_15_ok hr g
theorem dL_addMachine_19 : decode cL_addMachine 19 = .ok (.ireturn, 1) := by decide +kernel
theorem iL_addMachine_19 (hk : k ≤ R.cells) (hs : n ≤ R.slots) (hq : Q (.inl (some (.int x))) h) : z_J Z mL_addMachine R k n Q 19 ls [.int x] h := z_iret (ty := .int) dL_addMachine_19 rfl rfl hk hs hq
def bL_addMachine_20 : zB := [(20, .astore 4, 22, nI 0), (22, .bipush (-73), 24, -73)]
theorem bL_addMachine_20_ok : z_ok cL_addMachine 20 bL_addMachine_20 24 = true := by decide +kernel
theorem iL_addMachine_20 (hr : z_run 5 bL_addMachine_20 ls st = some (ls', st')) (g : z_J Z mL_addMachine R k n Q 24 ls' st' h) : z_J Z mL_addMachine R k n Q 20 ls st h := z_jr bL_addMachine_20 bL_addMachine_20_ok hr g
theorem dL_addMachine_24 : decode cL_addMachine 24 = .ok (.ireturn, 1) := by decide +kernel
theorem iL_addMachine_24 (hk : k ≤ R.cells) (hs : n ≤ R.slots) (hq : Q (.inl (some (.int x))) h) : z_J Z mL_addMachine R k n Q 24 ls [.int x] h := z_iret (ty := .int) dL_addMachine_24 rfl rfl hk hs hq
def bL_addMachine_25 : zB := [(25, .iload_n 3, 26, nI 0)]
theorem bL_addMachine_25_ok : z_ok cL_addMachine 25 bL_addMachine_25 26 = true := by decide +kernel
theorem iL_addMachine_25 (hr : z_run 5 bL_addMachine_25 ls st = some (ls', st')) (g : z_J Z mL_addMachine R k n Q 26 ls' st' h) : z_J Z mL_addMachine R k n Q 25 ls st h := z_jr bL_addMachine_25 bL_addMachine_25_ok hr g
theorem dL_addMachine_26 : decode cL_addMachine 26 = .ok (.ireturn, 1) := by decide +kernel
theorem iL_addMachine_26 (hk : k ≤ R.cells) (hs : n ≤ R.slots) (hq : Q (.inl (some (.int x))) h) : z_J Z mL_addMachine R k n Q 26 ls [.int x] h := z_iret (ty := .int) dL_addMachine_26 rfl rfl hk hs hq
/-! L_setCores -/
def bL_setCores_0 : zB := [(0, .aload_n 0, 1, nI 0), (1, .iload_n 1, 2, nI 0), (2, .iload_n 2, 3, nI 0)]
theorem bL_setCores_0_ok : z_ok cL_setCores 0 bL_setCores_0 3 = true := by decide +kernel
theorem iL_setCores_0 (hr : z_run 5 bL_setCores_0 ls st = some (ls', st')) (g : z_J Z mL_setCores R k n Q 3 ls' st' h) : z_J Z mL_setCores R k n Q 0 ls st h := z_jr bL_setCores_0 bL_setCores_0_ok hr g
theorem dL_setCores_3 : decode cL_setCores 3 = .ok (.invokevirtual 30, 3) := by decide +kernel
theorem iL_setCores_3 (ha : z_args 2 st [] = some (As, .ref b :: rest)) (hc : z_chk rest (.ref b :: As) 5 = true) (hh : h r = some (b, .inr (6, fs))) (hR : z_rm R R' 5 k n) (gc : z_J Z mX5_setCores R' 0 0 Q' 0 (.ref b :: As) [] h) (kr : ∀ (v : Option Value) (h' : zH), Q' (.inl v) h' → z_J Z mL_setCores R (k + R'.cells) (n + R'.slots) Q 6 ls (v.toList ++ rest) h') (kx : ∀ (E : String) (h' : zH), Q' (.inr E) h' → z_JX Z mL_setCores R (k + R'.cells) (n + R'.slots) Q 3 ls E h') : z_J Z mL_setCores R k n Q 3 ls st h := z_callV (M' := mX5_setCores) dL_setCores_3 rfl cs_L_30 rfl gw474 gw475 ha hh (ci := 6) rfl hR (z_chk1 hc) (z_chk2 hc) (z_chk3 hc) gc kr kx
def bL_setCores_6 : zB := [(6, .istore_n 3, 7, nI 0), (7, .goto 13, 20, nI 0)]
theorem bL_setCores_6_ok : z_ok cL_setCores 6 bL_setCores_6 20 = true := by decide +kernel
theorem iL_setCores_6 (hr : z_run 5 bL_setCores_6 ls st = some (ls', st')) (g : z_J Z mL_setCores R k n Q 20 ls' st' h) : z_J Z mL_setCores R k n Q 6 ls st h := z_jr bL_setCores_6 bL_setCores_6_ok hr g
def bL_setCores_10 : zB := [(10, .astore 4, 12, nI 0), (12, .bipush (-71), 14, -71)]
theorem bL_setCores_10_ok : z_ok cL_setCores 10 bL_setCores_10 14 = true := by decide +kernel
theorem iL_setCores_10 (hr : z_run 5 bL_setCores_10 ls st = some (ls', st')) (g : z_J Z mL_setCores R k n Q 14 ls' st' h) : z_J Z mL_setCores R k n Q 10 ls st h := z_jr bL_setCores_10 bL_setCores_10_ok hr g
theorem dL_setCores_14 : decode cL_setCores 14 = .ok (.ireturn, 1) := by decide +kernel
theorem iL_setCores_14 (hk : k ≤ R.cells) (hs : n ≤ R.slots) (hq : Q (.inl (some (.int x))) h) : z_J Z mL_setCores R k n Q 14 ls [.int x] h := z_iret (ty := .int) dL_setCores_14 rfl rfl hk hs hq
def bL_setCores_15 : zB := [(15, .astore 4, 17, nI 0), (17, .bipush (-72), 19, -72)]
theorem bL_setCores_15_ok : z_ok cL_setCores 15 bL_setCores_15 19 = true := by decide +kernel
theorem iL_setCores_15 (hr : z_run 5 bL_setCores_15 ls st = some (ls', st')) (g : z_J Z mL_setCores R k n Q 19 ls' st' h) : z_J Z mL_setCores R k n Q 15 ls st h := z_jr bL_setCores_15 bL_setCores_15_ok hr g
theorem dL_setCores_19 : decode cL_setCores 19 = .ok (.ireturn, 1) := by decide +kernel
theorem iL_setCores_19 (hk : k ≤ R.cells) (hs : n ≤ R.slots) (hq : Q (.inl (some (.int x))) h) : z_J Z mL_setCores R k n Q 19 ls [.int x] h := z_iret (ty := .int) dL_setCores_19 rfl rfl hk hs hq
def bL_setCores_20 : zB := [(20, .iload_n 3, 21, nI 0)]
theorem bL_setCores_20_ok : z_ok cL_setCores 20 bL_setCores_20 21 = true := by decide +kernel
theorem iL_setCores_20 (hr : z_run 5 bL_setCores_20 ls st = some (ls', st')) (g : z_J Z mL_setCores R k n Q 21 ls' st' h) : z_J Z mL_setCores R k n Q 20 ls st h := z_jr bL_setCores_20 bL_setCores_20_ok hr g
theorem dL_setCores_21 : decode cL_setCores 21 = .ok (.ireturn, 1) := by decide +kernel
theorem iL_setCores_21 (hk : k ≤ R.cells) (hs : n ≤ R.slots) (hq : Q (.inl (some (.int x))) h) : z_J Z mL_setCores R k n Q 21 ls [.int x] h := z_iret (ty := .int) dL_setCores_21 rfl rfl hk hs hq
/-! L_tellApart -/
def bL_tellApart_0 : zB := [(0, .aload_n 0, 1, nI 0), (1, .iload_n 1, 2, nI 0), (2, .iload_n 2, 3, nI 0)]
theorem bL_tellApart_0_ok : z_ok cL_tellApart 0 bL_tellApart_0 3 = true := by decide +kernel
theorem iL_tellApart_0 (hr : z_run 5 bL_tellApart_0 ls st = some (ls', st')) (g : z_J Z mL_tellApart R k n Q 3 ls' st' h) : z_J Z mL_tellApart R k n Q 0 ls st h := z_jr bL_tellApart_0 bL_tellApart_0_ok hr g
theorem dL_tellApart_3 : decode cL_tellApart 3 = .ok (.invokevirtual 33, 3) := by decide +kernel
theorem iL_tellApart_3 (ha : z_args 2 st [] = some (As, .ref b :: rest)) (hc : z_chk rest (.ref b :: As) 4 = true) (hh : h r = some (b, .inr (6, fs))) (hR : z_rm R R' 4 k n) (gc : z_J Z mX5_tellApart R' 0 0 Q' 0 (.ref b :: As) [] h) (kr : ∀ (v : Option Value) (h' : zH), Q' (.inl v) h' → z_J Z mL_tellApart R (k + R'.cells) (n + R'.slots) Q 6 ls (v.toList ++ rest) h') (kx : ∀ (E : String) (h' : zH), Q' (.inr E) h' → z_JX Z mL_tellApart R (k + R'.cells) (n + R'.slots) Q 3 ls E h') : z_J Z mL_tellApart R k n Q 3 ls st h := z_callV (M' := mX5_tellApart) dL_tellApart_3 rfl cs_L_33 rfl gw481 gw482 ha hh (ci := 6) rfl hR (z_chk1 hc) (z_chk2 hc) (z_chk3 hc) gc kr kx
def bL_tellApart_6 : zB := [(6, .istore_n 3, 7, nI 0), (7, .goto 8, 15, nI 0)]
theorem bL_tellApart_6_ok : z_ok cL_tellApart 6 bL_tellApart_6 15 = true := by decide +kernel
theorem iL_tellApart_6 (hr : z_run 5 bL_tellApart_6 ls st = some (ls', st')) (g : z_J Z mL_tellApart R k n Q 15 ls' st' h) : z_J Z mL_tellApart R k n Q 6 ls st h := z_jr bL_tellApart_6 bL_tellApart_6_ok hr g
def bL_tellApart_10 : zB := [(10, .astore 4, 12, nI 0), (12, .bipush (-71), 14, -71)]
theorem bL_tellApart_10_ok : z_ok cL_tellApart 10 bL_tellApart_10 14 = true := by decide +kernel
theorem iL_tellApart_10 (hr : z_run 5 bL_tellApart_10 ls st = some (ls', st')) (g : z_J Z mL_tellApart R k n Q 14 ls' st' h) : z_J Z mL_tellApart R k n Q 10 ls st h := z_jr bL_tellApart_10 bL_tellApart_10_ok hr g
theorem dL_tellApart_14 : decode cL_tellApart 14 = .ok (.ireturn, 1) := by decide +kernel
theorem iL_tellApart_14 (hk : k ≤ R.cells) (hs : n ≤ R.slots) (hq : Q (.inl (some (.int x))) h) : z_J Z mL_tellApart R k n Q 14 ls [.int x] h := z_iret (ty := .int) dL_tellApart_14 rfl rfl hk hs hq
def bL_tellApart_15 : zB := [(15, .iload_n 3, 16, nI 0)]
theorem bL_tellApart_15_ok : z_ok cL_tellApart 15 bL_tellApart_15 16 = true := by decide +kernel
theorem iL_tellApart_15 (hr : z_run 5 bL_tellApart_15 ls st = some (ls', st')) (g : z_J Z mL_tellApart R k n Q 16 ls' st' h) : z_J Z mL_tellApart R k n Q 15 ls st h := z_jr bL_tellApart_15 bL_tellApart_15_ok hr g
theorem dL_tellApart_16 : decode cL_tellApart 16 = .ok (.ireturn, 1) := by decide +kernel
theorem iL_tellApart_16 (hk : k ≤ R.cells) (hs : n ≤ R.slots) (hq : Q (.inl (some (.int x))) h) : z_J Z mL_tellApart R k n Q 16 ls [.int x] h := z_iret (ty := .int) dL_tellApart_16 rfl rfl hk hs hq
/-! L_setCoresOfUnit -/
def bL_setCoresOfUnit_0 : zB := [(0, .aload_n 0, 1, nI 0), (1, .iload_n 1, 2, nI 0), (2, .iload_n 2, 3, nI 0)]
theorem bL_setCoresOfUnit_0_ok : z_ok cL_setCoresOfUnit 0 bL_setCoresOfUnit_0 3 = true := by decide +kernel
theorem iL_setCoresOfUnit_0 (hr : z_run 5 bL_setCoresOfUnit_0 ls st = some (ls', st')) (g : z_J Z mL_setCoresOfUnit R k n Q 3 ls' st' h) : z_J Z mL_setCoresOfUnit R k n Q 0 ls st h := z_jr bL_setCoresOfUnit_0 bL_setCoresOfUnit_0_ok hr g
theorem dL_setCoresOfUnit_3 : decode cL_setCoresOfUnit 3 = .ok (.invokevirtual 37, 3) := by decide +kernel
theorem iL_setCoresOfUnit_3 (ha : z_args 2 st [] = some (As, .ref b :: rest)) (hc : z_chk rest (.ref b :: As) 4 = true) (hh : h r = some (b, .inr (6, fs))) (hR : z_rm R R' 4 k n) (gc : z_J Z mX5_setCoresOfUnit R' 0 0 Q' 0 (.ref b :: As) [] h) (kr : ∀ (v : Option Value) (h' : zH), Q' (.inl v) h' → z_J Z mL_setCoresOfUnit R (k + R'.cells) (n + R'.slots) Q 6 ls (v.toList ++ rest) h') (kx : ∀ (E : String) (h' : zH), Q' (.inr E) h' → z_JX Z mL_setCoresOfUnit R (k + R'.cells) (n + R'.slots) Q 3 ls E h') : z_J Z mL_setCoresOfUnit R k n Q 3 ls st h := z_callV (M' := mX5_setCoresOfUnit) dL_setCoresOfUnit_3 rfl cs_L_37 rfl gw555 gw556 ha hh (ci := 6) rfl hR (z_chk1 hc) (z_chk2 hc) (z_chk3 hc) gc kr kx
def bL_setCoresOfUnit_6 : zB := [(6, .istore_n 3, 7, nI 0), (7, .goto 13, 20, nI 0)]
theorem bL_setCoresOfUnit_6_ok : z_ok cL_setCoresOfUnit 6 bL_setCoresOfUnit_6 20 = true := by decide +kernel
theorem iL_setCoresOfUnit_6 (hr : z_run 5 bL_setCoresOfUnit_6 ls st = some (ls', st')) (g : z_J Z mL_setCoresOfUnit R k n Q 20 ls' st' h) : z_J Z mL_setCoresOfUnit R k n Q 6 ls st h := z_jr bL_setCoresOfUnit_6 bL_setCoresOfUnit_6_ok hr g
def bL_setCoresOfUnit_10 : zB := [(10, .astore 4, 12, nI 0), (12, .bipush (-71), 14, -71)]
theorem bL_setCoresOfUnit_10_ok : z_ok cL_setCoresOfUnit 10 bL_setCoresOfUnit_10 14 = true := by decide +kernel
theorem iL_setCoresOfUnit_10 (hr : z_run 5 bL_setCoresOfUnit_10 ls st = some (ls', st')) (g : z_J Z mL_setCoresOfUnit R k n Q 14 ls' st' h) : z_J Z mL_setCoresOfUnit R k n Q 10 ls st h := z_jr bL_setCoresOfUnit_10 bL_setCoresOfUnit_10_ok hr g
theorem dL_setCoresOfUnit_14 : decode cL_setCoresOfUnit 14 = .ok (.ireturn, 1) := by decide +kernel
theorem iL_setCoresOfUnit_14 (hk : k ≤ R.cells) (hs : n ≤ R.slots) (hq : Q (.inl (some (.int x))) h) : z_J Z mL_setCoresOfUnit R k n Q 14 ls [.int x] h := z_iret (ty := .int) dL_setCoresOfUnit_14 rfl rfl hk hs hq
def bL_setCoresOfUnit_15 : zB := [(15, .astore 4, 17, nI 0), (17, .bipush (-72), 19, -72)]
theorem bL_setCoresOfUnit_15_ok : z_ok cL_setCoresOfUnit 15 bL_setCoresOfUnit_15 19 = true := by decide +kernel
theorem iL_setCoresOfUnit_15 (hr : z_run 5 bL_setCoresOfUnit_15 ls st = some (ls', st')) (g : z_J Z mL_setCoresOfUnit R k n Q 19 ls' st' h) : z_J Z mL_setCoresOfUnit R k n Q 15 ls st h := z_jr bL_setCoresOfUnit_15 bL_setCoresOfUnit_15_ok hr g
theorem dL_setCoresOfUnit_19 : decode cL_setCoresOfUnit 19 = .ok (.ireturn, 1) := by decide +kernel
theorem iL_setCoresOfUnit_19 (hk : k ≤ R.cells) (hs : n ≤ R.slots) (hq : Q (.inl (some (.int x))) h) : z_J Z mL_setCoresOfUnit R k n Q 19 ls [.int x] h := z_iret (ty := .int) dL_setCoresOfUnit_19 rfl rfl hk hs hq
def bL_setCoresOfUnit_20 : zB := [(20, .iload_n 3, 21, nI 0)]
theorem bL_setCoresOfUnit_20_ok : z_ok cL_setCoresOfUnit 20 bL_setCoresOfUnit_20 21 = true := by decide +kernel
theorem iL_setCoresOfUnit_20 (hr : z_run 5 bL_setCoresOfUnit_20 ls st = some (ls', st')) (g : z_J Z mL_setCoresOfUnit R k n Q 21 ls' st' h) : z_J Z mL_setCoresOfUnit R k n Q 20 ls st h := z_jr bL_setCoresOfUnit_20 bL_setCoresOfUnit_20_ok hr g
theorem dL_setCoresOfUnit_21 : decode cL_setCoresOfUnit 21 = .ok (.ireturn, 1) := by decide +kernel
theorem iL_setCoresOfUnit_21 (hk : k ≤ R.cells) (hs : n ≤ R.slots) (hq : Q (.inl (some (.int x))) h) : z_J Z mL_setCoresOfUnit R k n Q 21 ls [.int x] h := z_iret (ty := .int) dL_setCoresOfUnit_21 rfl rfl hk hs hq
/-! L_install -/
def bL_install_0 : zB := [(0, .aload_n 0, 1, nI 0), (1, .iload_n 1, 2, nI 0), (2, .iload_n 2, 3, nI 0), (3, .iload_n 3, 4, nI 0), (4, .iload 4, 6, nI 0)]
theorem bL_install_0_ok : z_ok cL_install 0 bL_install_0 6 = true := by decide +kernel
theorem iL_install_0 (hr : z_run 7 bL_install_0 ls st = some (ls', st')) (g : z_J Z mL_install R k n Q 6 ls' st' h) : z_J Z mL_install R k n Q 0 ls st h := z_jr bL_install_0 bL_install_0_ok hr g
theorem dL_install_6 : decode cL_install 6 = .ok (.invokevirtual 40, 3) := by decide +kernel
theorem iL_install_6 (ha : z_args 4 st [] = some (As, .ref b :: rest)) (hc : z_chk rest (.ref b :: As) 6 = true) (hh : h r = some (b, .inr (6, fs))) (hR : z_rm R R' 6 k n) (gc : z_J Z mX5_install R' 0 0 Q' 0 (.ref b :: As) [] h) (kr : ∀ (v : Option Value) (h' : zH), Q' (.inl v) h' → z_J Z mL_install R (k + R'.cells) (n + R'.slots) Q 9 ls (v.toList ++ rest) h') (kx : ∀ (E : String) (h' : zH), Q' (.inr E) h' → z_JX Z mL_install R (k + R'.cells) (n + R'.slots) Q 6 ls E h') : z_J Z mL_install R k n Q 6 ls st h := z_callV (M' := mX5_install) dL_install_6 rfl cs_L_40 rfl gw492 gw493 ha hh (ci := 6) rfl hR (z_chk1 hc) (z_chk2 hc) (z_chk3 hc) gc kr kx
def bL_install_9 : zB := [(9, .istore 5, 11, nI 0), (11, .goto 18, 29, nI 0)]
theorem bL_install_9_ok : z_ok cL_install 9 bL_install_9 29 = true := by decide +kernel
theorem iL_install_9 (hr : z_run 7 bL_install_9 ls st = some (ls', st')) (g : z_J Z mL_install R k n Q 29 ls' st' h) : z_J Z mL_install R k n Q 9 ls st h := z_jr bL_install_9 bL_install_9_ok hr g
def bL_install_14 : zB := [(14, .astore 6, 16, nI 0), (16, .bipush (-71), 18, -71)]
theorem bL_install_14_ok : z_ok cL_install 14 bL_install_14 18 = true := by decide +kernel
theorem iL_install_14 (hr : z_run 7 bL_install_14 ls st = some (ls', st')) (g : z_J Z mL_install R k n Q 18 ls' st' h) : z_J Z mL_install R k n Q 14 ls st h := z_jr bL_install_14 bL_install_14_ok hr g
theorem dL_install_18 : decode cL_install 18 = .ok (.ireturn, 1) := by decide +kernel
theorem iL_install_18 (hk : k ≤ R.cells) (hs : n ≤ R.slots) (hq : Q (.inl (some (.int x))) h) : z_J Z mL_install R k n Q 18 ls [.int x] h := z_iret (ty := .int) dL_install_18 rfl rfl hk hs hq
def bL_install_19 : zB := [(19, .astore 6, 21, nI 0), (21, .bipush (-72), 23, -72)]
theorem bL_install_19_ok : z_ok cL_install 19 bL_install_19 23 = true := by decide +kernel
theorem iL_install_19 (hr : z_run 7 bL_install_19 ls st = some (ls', st')) (g : z_J Z mL_install R k n Q 23 ls' st' h) : z_J Z mL_install R k n Q 19 ls st h := z_jr bL_install_19 bL_install_19_ok hr g
theorem dL_install_23 : decode cL_install 23 = .ok (.ireturn, 1) := by decide +kernel
theorem iL_install_23 (hk : k ≤ R.cells) (hs : n ≤ R.slots) (hq : Q (.inl (some (.int x))) h) : z_J Z mL_install R k n Q 23 ls [.int x] h := z_iret (ty := .int) dL_install_23 rfl rfl hk hs hq
def bL_install_24 : zB := [(24, .astore 6, 26, nI 0), (26, .bipush (-73), 28, -73)]
theorem bL_install_24_ok : z_ok cL_install 24 bL_install_24 28 = true := by decide +kernel
theorem iL_install_24 (hr : z_run 7 bL_install_24 ls st = some (ls', st')) (g : z_J Z mL_install R k n Q 28 ls' st' h) : z_J Z mL_install R k n Q 24 ls st h := z_jr bL_install_24 bL_install_24_ok hr g
theorem dL_install_28 : decode cL_install 28 = .ok (.ireturn, 1) := by decide +kernel
theorem iL_install_28 (hk : k ≤ R.cells) (hs : n ≤ R.slots) (hq : Q (.inl (some (.int x))) h) : z_J Z mL_install R k n Q 28 ls [.int x] h := z_iret (ty := .int) dL_install_28 rfl rfl hk hs hq
def bL_install_29 : zB := [(29, .iload 5, 31, nI 0)]
theorem bL_install_29_ok : z_ok cL_install 29 bL_install_29 31 = true := by decide +kernel
theorem iL_install_29 (hr : z_run 7 bL_install_29 ls st = some (ls', st')) (g : z_J Z mL_install R k n Q 31 ls' st' h) : z_J Z mL_install R k n Q 29 ls st h := z_jr bL_install_29 bL_install_29_ok hr g
theorem dL_install_31 : decode cL_install 31 = .ok (.ireturn, 1) := by decide +kernel
theorem iL_install_31 (hk : k ≤ R.cells) (hs : n ≤ R.slots) (hq : Q (.inl (some (.int x))) h) : z_J Z mL_install R k n Q 31 ls [.int x] h := z_iret (ty := .int) dL_install_31 rfl rfl hk hs hq
/-! L_uninstall -/
def bL_uninstall_0 : zB := [(0, .aload_n 0, 1, nI 0), (1, .iload_n 1, 2, nI 0), (2, .iload_n 2, 3, nI 0), (3, .iload_n 3, 4, nI 0)]
theorem bL_uninstall_0_ok : z_ok cL_uninstall 0 bL_uninstall_0 4 = true := by decide +kernel
theorem iL_uninstall_0 (hr : z_run 6 bL_uninstall_0 ls st = some (ls', st')) (g : z_J Z mL_uninstall R k n Q 4 ls' st' h) : z_J Z mL_uninstall R k n Q 0 ls st h := z_jr bL_uninstall_0 bL_uninstall_0_ok hr g
theorem dL_uninstall_4 : decode cL_uninstall 4 = .ok (.invokevirtual 44, 3) := by decide +kernel
theorem iL_uninstall_4 (ha : z_args 3 st [] = some (As, .ref b :: rest)) (hc : z_chk rest (.ref b :: As) 5 = true) (hh : h r = some (b, .inr (6, fs))) (hR : z_rm R R' 5 k n) (gc : z_J Z mX5_uninstall R' 0 0 Q' 0 (.ref b :: As) [] h) (kr : ∀ (v : Option Value) (h' : zH), Q' (.inl v) h' → z_J Z mL_uninstall R (k + R'.cells) (n + R'.slots) Q 7 ls (v.toList ++ rest) h') (kx : ∀ (E : String) (h' : zH), Q' (.inr E) h' → z_JX Z mL_uninstall R (k + R'.cells) (n + R'.slots) Q 4 ls E h') : z_J Z mL_uninstall R k n Q 4 ls st h := z_callV (M' := mX5_uninstall) dL_uninstall_4 rfl cs_L_44 rfl gw528 gw529 ha hh (ci := 6) rfl hR (z_chk1 hc) (z_chk2 hc) (z_chk3 hc) gc kr kx
def bL_uninstall_7 : zB := [(7, .istore 4, 9, nI 0), (9, .goto 18, 27, nI 0)]
theorem bL_uninstall_7_ok : z_ok cL_uninstall 7 bL_uninstall_7 27 = true := by decide +kernel
theorem iL_uninstall_7 (hr : z_run 6 bL_uninstall_7 ls st = some (ls', st')) (g : z_J Z mL_uninstall R k n Q 27 ls' st' h) : z_J Z mL_uninstall R k n Q 7 ls st h := z_jr bL_uninstall_7 bL_uninstall_7_ok hr g
def bL_uninstall_12 : zB := [(12, .astore 5, 14, nI 0), (14, .bipush (-71), 16, -71)]
theorem bL_uninstall_12_ok : z_ok cL_uninstall 12 bL_uninstall_12 16 = true := by decide +kernel
theorem iL_uninstall_12 (hr : z_run 6 bL_uninstall_12 ls st = some (ls', st')) (g : z_J Z mL_uninstall R k n Q 16 ls' st' h) : z_J Z mL_uninstall R k n Q 12 ls st h := z_jr bL_uninstall_12 bL_uninstall_12_ok hr g
theorem dL_uninstall_16 : decode cL_uninstall 16 = .ok (.ireturn, 1) := by decide +kernel
theorem iL_uninstall_16 (hk : k ≤ R.cells) (hs : n ≤ R.slots) (hq : Q (.inl (some (.int x))) h) : z_J Z mL_uninstall R k n Q 16 ls [.int x] h := z_iret (ty := .int) dL_uninstall_16 rfl rfl hk hs hq
def bL_uninstall_17 : zB := [(17, .astore 5, 19, nI 0), (19, .bipush (-72), 21, -72)]
theorem bL_uninstall_17_ok : z_ok cL_uninstall 17 bL_uninstall_17 21 = true := by decide +kernel
theorem iL_uninstall_17 (hr : z_run 6 bL_uninstall_17 ls st = some (ls', st')) (g : z_J Z mL_uninstall R k n Q 21 ls' st' h) : z_J Z mL_uninstall R k n Q 17 ls st h := z_jr bL_uninstall_17 bL_uninstall_17_ok hr g
theorem dL_uninstall_21 : decode cL_uninstall 21 = .ok (.ireturn, 1) := by decide +kernel
theorem iL_uninstall_21 (hk : k ≤ R.cells) (hs : n ≤ R.slots) (hq : Q (.inl (some (.int x))) h) : z_J Z mL_uninstall R k n Q 21 ls [.int x] h := z_iret (ty := .int) dL_uninstall_21 rfl rfl hk hs hq
def bL_uninstall_22 : zB := [(22, .astore 5, 24, nI 0), (24, .bipush (-73), 26, -73)]
theorem bL_uninstall_22_ok : z_ok cL_uninstall 22 bL_uninstall_22 26 = true := by decide +kernel
theorem iL_uninstall_22 (hr : z_run 6 bL_uninstall_22 ls st = some (ls', st')) (g : z_J Z mL_uninstall R k n Q 26 ls' st' h) : z_J Z mL_uninstall R k n Q 22 ls st h := z_jr bL_uninstall_22 bL_uninstall_22_ok hr g
theorem dL_uninstall_26 : decode cL_uninstall 26 = .ok (.ireturn, 1) := by decide +kernel
theorem iL_uninstall_26 (hk : k ≤ R.cells) (hs : n ≤ R.slots) (hq : Q (.inl (some (.int x))) h) : z_J Z mL_uninstall R k n Q 26 ls [.int x] h := z_iret (ty := .int) dL_uninstall_26 rfl rfl hk hs hq
def bL_uninstall_27 : zB := [(27, .iload 4, 29, nI 0)]
theorem bL_uninstall_27_ok : z_ok cL_uninstall 27 bL_uninstall_27 29 = true := by decide +kernel
theorem iL_uninstall_27 (hr : z_run 6 bL_uninstall_27 ls st = some (ls', st')) (g : z_J Z mL_uninstall R k n Q 29 ls' st' h) : z_J Z mL_uninstall R k n Q 27 ls st h := z_jr bL_uninstall_27 bL_uninstall_27_ok hr g
theorem dL_uninstall_29 : decode cL_uninstall 29 = .ok (.ireturn, 1) := by decide +kernel
theorem iL_uninstall_29 (hk : k ≤ R.cells) (hs : n ≤ R.slots) (hq : Q (.inl (some (.int x))) h) : z_J Z mL_uninstall R k n Q 29 ls [.int x] h := z_iret (ty := .int) dL_uninstall_29 rfl rfl hk hs hq
/-! L_runs -/
def bL_runs_0 : zB := [(0, .aload_n 0, 1, nI 0), (1, .iload_n 1, 2, nI 0), (2, .iload_n 2, 3, nI 0), (3, .iload_n 3, 4, nI 0)]
theorem bL_runs_0_ok : z_ok cL_runs 0 bL_runs_0 4 = true := by decide +kernel
theorem iL_runs_0 (hr : z_run 6 bL_runs_0 ls st = some (ls', st')) (g : z_J Z mL_runs R k n Q 4 ls' st' h) : z_J Z mL_runs R k n Q 0 ls st h := z_jr bL_runs_0 bL_runs_0_ok hr g
theorem dL_runs_4 : decode cL_runs 4 = .ok (.invokevirtual 48, 3) := by decide +kernel
theorem iL_runs_4 (ha : z_args 3 st [] = some (As, .ref b :: rest)) (hc : z_chk rest (.ref b :: As) 5 = true) (hh : h r = some (b, .inr (6, fs))) (hR : z_rm R R' 5 k n) (gc : z_J Z mX5_runs R' 0 0 Q' 0 (.ref b :: As) [] h) (kr : ∀ (v : Option Value) (h' : zH), Q' (.inl v) h' → z_J Z mL_runs R (k + R'.cells) (n + R'.slots) Q 7 ls (v.toList ++ rest) h') (kx : ∀ (E : String) (h' : zH), Q' (.inr E) h' → z_JX Z mL_runs R (k + R'.cells) (n + R'.slots) Q 4 ls E h') : z_J Z mL_runs R k n Q 4 ls st h := z_callV (M' := mX5_runs) dL_runs_4 rfl cs_L_48 rfl gw541 gw542 ha hh (ci := 6) rfl hR (z_chk1 hc) (z_chk2 hc) (z_chk3 hc) gc kr kx
def bL_runs_7 : zB := [(7, .istore 4, 9, nI 0), (9, .goto 13, 22, nI 0)]
theorem bL_runs_7_ok : z_ok cL_runs 7 bL_runs_7 22 = true := by decide +kernel
theorem iL_runs_7 (hr : z_run 6 bL_runs_7 ls st = some (ls', st')) (g : z_J Z mL_runs R k n Q 22 ls' st' h) : z_J Z mL_runs R k n Q 7 ls st h := z_jr bL_runs_7 bL_runs_7_ok hr g
def bL_runs_12 : zB := [(12, .astore 5, 14, nI 0), (14, .bipush (-71), 16, -71)]
theorem bL_runs_12_ok : z_ok cL_runs 12 bL_runs_12 16 = true := by decide +kernel
theorem iL_runs_12 (hr : z_run 6 bL_runs_12 ls st = some (ls', st')) (g : z_J Z mL_runs R k n Q 16 ls' st' h) : z_J Z mL_runs R k n Q 12 ls st h := z_jr bL_runs_12 bL_runs_12_ok hr g
theorem dL_runs_16 : decode cL_runs 16 = .ok (.ireturn, 1) := by decide +kernel
theorem iL_runs_16 (hk : k ≤ R.cells) (hs : n ≤ R.slots) (hq : Q (.inl (some (.int x))) h) : z_J Z mL_runs R k n Q 16 ls [.int x] h := z_iret (ty := .int) dL_runs_16 rfl rfl hk hs hq
def bL_runs_17 : zB := [(17, .astore 5, 19, nI 0), (19, .bipush (-72), 21, -72)]
theorem bL_runs_17_ok : z_ok cL_runs 17 bL_runs_17 21 = true := by decide +kernel
theorem iL_runs_17 (hr : z_run 6 bL_runs_17 ls st = some (ls', st')) (g : z_J Z mL_runs R k n Q 21 ls' st' h) : z_J Z mL_runs R k n Q 17 ls st h := z_jr bL_runs_17 bL_runs_17_ok hr g
theorem dL_runs_21 : decode cL_runs 21 = .ok (.ireturn, 1) := by decide +kernel
theorem iL_runs_21 (hk : k ≤ R.cells) (hs : n ≤ R.slots) (hq : Q (.inl (some (.int x))) h) : z_J Z mL_runs R k n Q 21 ls [.int x] h := z_iret (ty := .int) dL_runs_21 rfl rfl hk hs hq
def bL_runs_22 : zB := [(22, .iload 4, 24, nI 0)]
theorem bL_runs_22_ok : z_ok cL_runs 22 bL_runs_22 24 = true := by decide +kernel
theorem iL_runs_22 (hr : z_run 6 bL_runs_22 ls st = some (ls', st')) (g : z_J Z mL_runs R k n Q 24 ls' st' h) : z_J Z mL_runs R k n Q 22 ls st h := z_jr bL_runs_22 bL_runs_22_ok hr g
theorem dL_runs_24 : decode cL_runs 24 = .ok (.ireturn, 1) := by decide +kernel
theorem iL_runs_24 (hk : k ≤ R.cells) (hs : n ≤ R.slots) (hq : Q (.inl (some (.int x))) h) : z_J Z mL_runs R k n Q 24 ls [.int x] h := z_iret (ty := .int) dL_runs_24 rfl rfl hk hs hq
/-! L_need -/
def bL_need_0 : zB := [(0, .aload_n 0, 1, nI 0), (1, .iload_n 1, 2, nI 0), (2, .iload_n 2, 3, nI 0)]
theorem bL_need_0_ok : z_ok cL_need 0 bL_need_0 3 = true := by decide +kernel
theorem iL_need_0 (hr : z_run 5 bL_need_0 ls st = some (ls', st')) (g : z_J Z mL_need R k n Q 3 ls' st' h) : z_J Z mL_need R k n Q 0 ls st h := z_jr bL_need_0 bL_need_0_ok hr g
theorem dL_need_3 : decode cL_need 3 = .ok (.invokevirtual 51, 3) := by decide +kernel
theorem iL_need_3 (ha : z_args 2 st [] = some (As, .ref b :: rest)) (hc : z_chk rest (.ref b :: As) 3 = true) (hh : h r = some (b, .inr (6, fs))) (hR : z_rm R R' 3 k n) (gc : z_J Z mX5_need R' 0 0 Q' 0 (.ref b :: As) [] h) (kr : ∀ (v : Option Value) (h' : zH), Q' (.inl v) h' → z_J Z mL_need R (k + R'.cells) (n + R'.slots) Q 6 ls (v.toList ++ rest) h') (kx : ∀ (E : String) (h' : zH), Q' (.inr E) h' → z_JX Z mL_need R (k + R'.cells) (n + R'.slots) Q 3 ls E h') : z_J Z mL_need R k n Q 3 ls st h := z_callV (M' := mX5_need) dL_need_3 rfl cs_L_51 rfl gw617 gw618 ha hh (ci := 6) rfl hR (z_chk1 hc) (z_chk2 hc) (z_chk3 hc) gc kr kx
def bL_need_6 : zB := [(6, .istore_n 3, 7, nI 0), (7, .goto 13, 20, nI 0)]
theorem bL_need_6_ok : z_ok cL_need 6 bL_need_6 20 = true := by decide +kernel
theorem iL_need_6 (hr : z_run 5 bL_need_6 ls st = some (ls', st')) (g : z_J Z mL_need R k n Q 20 ls' st' h) : z_J Z mL_need R k n Q 6 ls st h := z_jr bL_need_6 bL_need_6_ok hr g
def bL_need_10 : zB := [(10, .astore 4, 12, nI 0), (12, .bipush (-72), 14, -72)]
theorem bL_need_10_ok : z_ok cL_need 10 bL_need_10 14 = true := by decide +kernel
theorem iL_need_10 (hr : z_run 5 bL_need_10 ls st = some (ls', st')) (g : z_J Z mL_need R k n Q 14 ls' st' h) : z_J Z mL_need R k n Q 10 ls st h := z_jr bL_need_10 bL_need_10_ok hr g
theorem dL_need_14 : decode cL_need 14 = .ok (.ireturn, 1) := by decide +kernel
theorem iL_need_14 (hk : k ≤ R.cells) (hs : n ≤ R.slots) (hq : Q (.inl (some (.int x))) h) : z_J Z mL_need R k n Q 14 ls [.int x] h := z_iret (ty := .int) dL_need_14 rfl rfl hk hs hq
def bL_need_15 : zB := [(15, .astore 4, 17, nI 0), (17, .bipush (-71), 19, -71)]
theorem bL_need_15_ok : z_ok cL_need 15 bL_need_15 19 = true := by decide +kernel
theorem iL_need_15 (hr : z_run 5 bL_need_15 ls st = some (ls', st')) (g : z_J Z mL_need R k n Q 19 ls' st' h) : z_J Z mL_need R k n Q 15 ls st h := z_jr bL_need_15 bL_need_15_ok hr g
theorem dL_need_19 : decode cL_need 19 = .ok (.ireturn, 1) := by decide +kernel
theorem iL_need_19 (hk : k ≤ R.cells) (hs : n ≤ R.slots) (hq : Q (.inl (some (.int x))) h) : z_J Z mL_need R k n Q 19 ls [.int x] h := z_iret (ty := .int) dL_need_19 rfl rfl hk hs hq
def bL_need_20 : zB := [(20, .iload_n 3, 21, nI 0)]
theorem bL_need_20_ok : z_ok cL_need 20 bL_need_20 21 = true := by decide +kernel
theorem iL_need_20 (hr : z_run 5 bL_need_20 ls st = some (ls', st')) (g : z_J Z mL_need R k n Q 21 ls' st' h) : z_J Z mL_need R k n Q 20 ls st h := z_jr bL_need_20 bL_need_20_ok hr g
theorem dL_need_21 : decode cL_need 21 = .ok (.ireturn, 1) := by decide +kernel
theorem iL_need_21 (hk : k ≤ R.cells) (hs : n ≤ R.slots) (hq : Q (.inl (some (.int x))) h) : z_J Z mL_need R k n Q 21 ls [.int x] h := z_iret (ty := .int) dL_need_21 rfl rfl hk hs hq
/-! L_gets -/
def bL_gets_0 : zB := [(0, .aload_n 0, 1, nI 0), (1, .iload_n 1, 2, nI 0), (2, .iload_n 2, 3, nI 0)]
theorem bL_gets_0_ok : z_ok cL_gets 0 bL_gets_0 3 = true := by decide +kernel
theorem iL_gets_0 (hr : z_run 5 bL_gets_0 ls st = some (ls', st')) (g : z_J Z mL_gets R k n Q 3 ls' st' h) : z_J Z mL_gets R k n Q 0 ls st h := z_jr bL_gets_0 bL_gets_0_ok hr g
theorem dL_gets_3 : decode cL_gets 3 = .ok (.invokevirtual 54, 3) := by decide +kernel
theorem iL_gets_3 (ha : z_args 2 st [] = some (As, .ref b :: rest)) (hc : z_chk rest (.ref b :: As) 3 = true) (hh : h r = some (b, .inr (6, fs))) (hR : z_rm R R' 3 k n) (gc : z_J Z mX5_gets R' 0 0 Q' 0 (.ref b :: As) [] h) (kr : ∀ (v : Option Value) (h' : zH), Q' (.inl v) h' → z_J Z mL_gets R (k + R'.cells) (n + R'.slots) Q 6 ls (v.toList ++ rest) h') (kx : ∀ (E : String) (h' : zH), Q' (.inr E) h' → z_JX Z mL_gets R (k + R'.cells) (n + R'.slots) Q 3 ls E h') : z_J Z mL_gets R k n Q 3 ls st h := z_callV (M' := mX5_gets) dL_gets_3 rfl cs_L_54 rfl gw629 gw630 ha hh (ci := 6) rfl hR (z_chk1 hc) (z_chk2 hc) (z_chk3 hc) gc kr kx
def bL_gets_6 : zB := [(6, .istore_n 3, 7, nI 0), (7, .goto 13, 20, nI 0)]
theorem bL_gets_6_ok : z_ok cL_gets 6 bL_gets_6 20 = true := by decide +kernel
theorem iL_gets_6 (hr : z_run 5 bL_gets_6 ls st = some (ls', st')) (g : z_J Z mL_gets R k n Q 20 ls' st' h) : z_J Z mL_gets R k n Q 6 ls st h := z_jr bL_gets_6 bL_gets_6_ok hr g
def bL_gets_10 : zB := [(10, .astore 4, 12, nI 0), (12, .bipush (-72), 14, -72)]
theorem bL_gets_10_ok : z_ok cL_gets 10 bL_gets_10 14 = true := by decide +kernel
theorem iL_gets_10 (hr : z_run 5 bL_gets_10 ls st = some (ls', st')) (g : z_J Z mL_gets R k n Q 14 ls' st' h) : z_J Z mL_gets R k n Q 10 ls st h := z_jr bL_gets_10 bL_gets_10_ok hr g
theorem dL_gets_14 : decode cL_gets 14 = .ok (.ireturn, 1) := by decide +kernel
theorem iL_gets_14 (hk : k ≤ R.cells) (hs : n ≤ R.slots) (hq : Q (.inl (some (.int x))) h) : z_J Z mL_gets R k n Q 14 ls [.int x] h := z_iret (ty := .int) dL_gets_14 rfl rfl hk hs hq
def bL_gets_15 : zB := [(15, .astore 4, 17, nI 0), (17, .bipush (-71), 19, -71)]
theorem bL_gets_15_ok : z_ok cL_gets 15 bL_gets_15 19 = true := by decide +kernel
theorem iL_gets_15 (hr : z_run 5 bL_gets_15 ls st = some (ls', st')) (g : z_J Z mL_gets R k n Q 19 ls' st' h) : z_J Z mL_gets R k n Q 15 ls st h := z_jr bL_gets_15 bL_gets_15_ok hr g
theorem dL_gets_19 : decode cL_gets 19 = .ok (.ireturn, 1) := by decide +kernel
theorem iL_gets_19 (hk : k ≤ R.cells) (hs : n ≤ R.slots) (hq : Q (.inl (some (.int x))) h) : z_J Z mL_gets R k n Q 19 ls [.int x] h := z_iret (ty := .int) dL_gets_19 rfl rfl hk hs hq
def bL_gets_20 : zB := [(20, .iload_n 3, 21, nI 0)]
theorem bL_gets_20_ok : z_ok cL_gets 20 bL_gets_20 21 = true := by decide +kernel
theorem iL_gets_20 (hr : z_run 5 bL_gets_20 ls st = some (ls', st')) (g : z_J Z mL_gets R k n Q 21 ls' st' h) : z_J Z mL_gets R k n Q 20 ls st h := z_jr bL_gets_20 bL_gets_20_ok hr g
theorem dL_gets_21 : decode cL_gets 21 = .ok (.ireturn, 1) := by decide +kernel
theorem iL_gets_21 (hk : k ≤ R.cells) (hs : n ≤ R.slots) (hq : Q (.inl (some (.int x))) h) : z_J Z mL_gets R k n Q 21 ls [.int x] h := z_iret (ty := .int) dL_gets_21 rfl rfl hk hs hq
/-! L_lack -/
def bL_lack_0 : zB := [(0, .aload_n 0, 1, nI 0), (1, .iload_n 1, 2, nI 0)]
theorem bL_lack_0_ok : z_ok cL_lack 0 bL_lack_0 2 = true := by decide +kernel
theorem iL_lack_0 (hr : z_run 4 bL_lack_0 ls st = some (ls', st')) (g : z_J Z mL_lack R k n Q 2 ls' st' h) : z_J Z mL_lack R k n Q 0 ls st h := z_jr bL_lack_0 bL_lack_0_ok hr g
theorem dL_lack_2 : decode cL_lack 2 = .ok (.invokevirtual 57, 3) := by decide +kernel
theorem iL_lack_2 (ha : z_args 1 st [] = some (As, .ref b :: rest)) (hc : z_chk rest (.ref b :: As) 2 = true) (hh : h r = some (b, .inr (6, fs))) (hR : z_rm R R' 2 k n) (gc : z_J Z mX5_lack R' 0 0 Q' 0 (.ref b :: As) [] h) (kr : ∀ (v : Option Value) (h' : zH), Q' (.inl v) h' → z_J Z mL_lack R (k + R'.cells) (n + R'.slots) Q 5 ls (v.toList ++ rest) h') (kx : ∀ (E : String) (h' : zH), Q' (.inr E) h' → z_JX Z mL_lack R (k + R'.cells) (n + R'.slots) Q 2 ls E h') : z_J Z mL_lack R k n Q 2 ls st h := z_callV (M' := mX5_lack) dL_lack_2 rfl cs_L_57 rfl gw709 gw710 ha hh (ci := 6) rfl hR (z_chk1 hc) (z_chk2 hc) (z_chk3 hc) gc kr kx
def bL_lack_5 : zB := [(5, .istore_n 2, 6, nI 0), (6, .goto 7, 13, nI 0)]
theorem bL_lack_5_ok : z_ok cL_lack 5 bL_lack_5 13 = true := by decide +kernel
theorem iL_lack_5 (hr : z_run 4 bL_lack_5 ls st = some (ls', st')) (g : z_J Z mL_lack R k n Q 13 ls' st' h) : z_J Z mL_lack R k n Q 5 ls st h := z_jr bL_lack_5 bL_lack_5_ok hr g
def bL_lack_9 : zB := [(9, .astore_n 3, 10, nI 0), (10, .bipush (-72), 12, -72)]
theorem bL_lack_9_ok : z_ok cL_lack 9 bL_lack_9 12 = true := by decide +kernel
theorem iL_lack_9 (hr : z_run 4 bL_lack_9 ls st = some (ls', st')) (g : z_J Z mL_lack R k n Q 12 ls' st' h) : z_J Z mL_lack R k n Q 9 ls st h := z_jr bL_lack_9 bL_lack_9_ok hr g
theorem dL_lack_12 : decode cL_lack 12 = .ok (.ireturn, 1) := by decide +kernel
theorem iL_lack_12 (hk : k ≤ R.cells) (hs : n ≤ R.slots) (hq : Q (.inl (some (.int x))) h) : z_J Z mL_lack R k n Q 12 ls [.int x] h := z_iret (ty := .int) dL_lack_12 rfl rfl hk hs hq
def bL_lack_13 : zB := [(13, .iload_n 2, 14, nI 0)]
theorem bL_lack_13_ok : z_ok cL_lack 13 bL_lack_13 14 = true := by decide +kernel
theorem iL_lack_13 (hr : z_run 4 bL_lack_13 ls st = some (ls', st')) (g : z_J Z mL_lack R k n Q 14 ls' st' h) : z_J Z mL_lack R k n Q 13 ls st h := z_jr bL_lack_13 bL_lack_13_ok hr g
theorem dL_lack_14 : decode cL_lack 14 = .ok (.ireturn, 1) := by decide +kernel
theorem iL_lack_14 (hk : k ≤ R.cells) (hs : n ≤ R.slots) (hq : Q (.inl (some (.int x))) h) : z_J Z mL_lack R k n Q 14 ls [.int x] h := z_iret (ty := .int) dL_lack_14 rfl rfl hk hs hq
/-! L_lackBySets -/
def bL_lackBySets_0 : zB := [(0, .aload_n 0, 1, nI 0), (1, .iload_n 1, 2, nI 0)]
theorem bL_lackBySets_0_ok : z_ok cL_lackBySets 0 bL_lackBySets_0 2 = true := by decide +kernel
theorem iL_lackBySets_0 (hr : z_run 4 bL_lackBySets_0 ls st = some (ls', st')) (g : z_J Z mL_lackBySets R k n Q 2 ls' st' h) : z_J Z mL_lackBySets R k n Q 0 ls st h := z_jr bL_lackBySets_0 bL_lackBySets_0_ok hr g
theorem dL_lackBySets_2 : decode cL_lackBySets 2 = .ok (.invokevirtual 61, 3) := by decide +kernel
theorem iL_lackBySets_2 (ha : z_args 1 st [] = some (As, .ref b :: rest)) (hc : z_chk rest (.ref b :: As) 4 = true) (hh : h r = some (b, .inr (6, fs))) (hR : z_rm R R' 4 k n) (gc : z_J Z mX5_lackBySets R' 0 0 Q' 0 (.ref b :: As) [] h) (kr : ∀ (v : Option Value) (h' : zH), Q' (.inl v) h' → z_J Z mL_lackBySets R (k + R'.cells) (n + R'.slots) Q 5 ls (v.toList ++ rest) h') (kx : ∀ (E : String) (h' : zH), Q' (.inr E) h' → z_JX Z mL_lackBySets R (k + R'.cells) (n + R'.slots) Q 2 ls E h') : z_J Z mL_lackBySets R k n Q 2 ls st h := z_callV (M' := mX5_lackBySets) dL_lackBySets_2 rfl cs_L_61 rfl gw689 gw690 ha hh (ci := 6) rfl hR (z_chk1 hc) (z_chk2 hc) (z_chk3 hc) gc kr kx
def bL_lackBySets_5 : zB := [(5, .istore_n 2, 6, nI 0), (6, .goto 11, 17, nI 0)]
theorem bL_lackBySets_5_ok : z_ok cL_lackBySets 5 bL_lackBySets_5 17 = true := by decide +kernel
theorem iL_lackBySets_5 (hr : z_run 4 bL_lackBySets_5 ls st = some (ls', st')) (g : z_J Z mL_lackBySets R k n Q 17 ls' st' h) : z_J Z mL_lackBySets R k n Q 5 ls st h := z_jr bL_lackBySets_5 bL_lackBySets_5_ok hr g
def bL_lackBySets_9 : zB := [(9, .astore_n 3, 10, nI 0), (10, .bipush (-72), 12, -72)]
theorem bL_lackBySets_9_ok : z_ok cL_lackBySets 9 bL_lackBySets_9 12 = true := by decide +kernel
theorem iL_lackBySets_9 (hr : z_run 4 bL_lackBySets_9 ls st = some (ls', st')) (g : z_J Z mL_lackBySets R k n Q 12 ls' st' h) : z_J Z mL_lackBySets R k n Q 9 ls st h := z_jr bL_lackBySets_9 bL_lackBySets_9_ok hr g
theorem dL_lackBySets_12 : decode cL_lackBySets 12 = .ok (.ireturn, 1) := by decide +kernel
theorem iL_lackBySets_12 (hk : k ≤ R.cells) (hs : n ≤ R.slots) (hq : Q (.inl (some (.int x))) h) : z_J Z mL_lackBySets R k n Q 12 ls [.int x] h := z_iret (ty := .int) dL_lackBySets_12 rfl rfl hk hs hq
def bL_lackBySets_13 : zB := [(13, .astore_n 3, 14, nI 0), (14, .bipush (-73), 16, -73)]
theorem bL_lackBySets_13_ok : z_ok cL_lackBySets 13 bL_lackBySets_13 16 = true := by decide +kernel
theorem iL_lackBySets_13 (hr : z_run 4 bL_lackBySets_13 ls st = some (ls', st')) (g : z_J Z mL_lackBySets R k n Q 16 ls' st' h) : z_J Z mL_lackBySets R k n Q 13 ls st h := z_jr bL_lackBySets_13 bL_lackBySets_13_ok hr g
theorem dL_lackBySets_16 : decode cL_lackBySets 16 = .ok (.ireturn, 1) := by decide +kernel
theorem iL_lackBySets_16 (hk : k ≤ R.cells) (hs : n ≤ R.slots) (hq : Q (.inl (some (.int x))) h) : z_J Z mL_lackBySets R k n Q 16 ls [.int x] h := z_iret (ty := .int) dL_lackBySets_16 rfl rfl hk hs hq
def bL_lackBySets_17 : zB := [(17, .iload_n 2, 18, nI 0)]
theorem bL_lackBySets_17_ok : z_ok cL_lackBySets 17 bL_lackBySets_17 18 = true := by decide +kernel
theorem iL_lackBySets_17 (hr : z_run 4 bL_lackBySets_17 ls st = some (ls', st')) (g : z_J Z mL_lackBySets R k n Q 18 ls' st' h) : z_J Z mL_lackBySets R k n Q 17 ls st h := z_jr bL_lackBySets_17 bL_lackBySets_17_ok hr g
theorem dL_lackBySets_18 : decode cL_lackBySets 18 = .ok (.ireturn, 1) := by decide +kernel
theorem iL_lackBySets_18 (hk : k ≤ R.cells) (hs : n ≤ R.slots) (hq : Q (.inl (some (.int x))) h) : z_J Z mL_lackBySets R k n Q 18 ls [.int x] h := z_iret (ty := .int) dL_lackBySets_18 rfl rfl hk hs hq
/-! L_spare -/
def bL_spare_0 : zB := [(0, .aload_n 0, 1, nI 0), (1, .iload_n 1, 2, nI 0), (2, .iload_n 2, 3, nI 0), (3, .iload_n 3, 4, nI 0)]
theorem bL_spare_0_ok : z_ok cL_spare 0 bL_spare_0 4 = true := by decide +kernel
theorem iL_spare_0 (hr : z_run 6 bL_spare_0 ls st = some (ls', st')) (g : z_J Z mL_spare R k n Q 4 ls' st' h) : z_J Z mL_spare R k n Q 0 ls st h := z_jr bL_spare_0 bL_spare_0_ok hr g
theorem dL_spare_4 : decode cL_spare 4 = .ok (.invokevirtual 64, 3) := by decide +kernel
theorem iL_spare_4 (ha : z_args 3 st [] = some (As, .ref b :: rest)) (hc : z_chk rest (.ref b :: As) 4 = true) (hh : h r = some (b, .inr (6, fs))) (hR : z_rm R R' 4 k n) (gc : z_J Z mX5_spare R' 0 0 Q' 0 (.ref b :: As) [] h) (kr : ∀ (v : Option Value) (h' : zH), Q' (.inl v) h' → z_J Z mL_spare R (k + R'.cells) (n + R'.slots) Q 7 ls (v.toList ++ rest) h') (kx : ∀ (E : String) (h' : zH), Q' (.inr E) h' → z_JX Z mL_spare R (k + R'.cells) (n + R'.slots) Q 4 ls E h') : z_J Z mL_spare R k n Q 4 ls st h := z_callV (M' := mX5_spare) dL_spare_4 rfl cs_L_64 rfl gw723 gw724 ha hh (ci := 6) rfl hR (z_chk1 hc) (z_chk2 hc) (z_chk3 hc) gc kr kx
def bL_spare_7 : zB := [(7, .istore 4, 9, nI 0), (9, .goto 13, 22, nI 0)]
theorem bL_spare_7_ok : z_ok cL_spare 7 bL_spare_7 22 = true := by decide +kernel
theorem iL_spare_7 (hr : z_run 6 bL_spare_7 ls st = some (ls', st')) (g : z_J Z mL_spare R k n Q 22 ls' st' h) : z_J Z mL_spare R k n Q 7 ls st h := z_jr bL_spare_7 bL_spare_7_ok hr g
def bL_spare_12 : zB := [(12, .astore 5, 14, nI 0), (14, .bipush (-72), 16, -72)]
theorem bL_spare_12_ok : z_ok cL_spare 12 bL_spare_12 16 = true := by decide +kernel
theorem iL_spare_12 (hr : z_run 6 bL_spare_12 ls st = some (ls', st')) (g : z_J Z mL_spare R k n Q 16 ls' st' h) : z_J Z mL_spare R k n Q 12 ls st h := z_jr bL_spare_12 bL_spare_12_ok hr g
theorem dL_spare_16 : decode cL_spare 16 = .ok (.ireturn, 1) := by decide +kernel
theorem iL_spare_16 (hk : k ≤ R.cells) (hs : n ≤ R.slots) (hq : Q (.inl (some (.int x))) h) : z_J Z mL_spare R k n Q 16 ls [.int x] h := z_iret (ty := .int) dL_spare_16 rfl rfl hk hs hq
def bL_spare_17 : zB := [(17, .astore 5, 19, nI 0), (19, .bipush (-71), 21, -71)]
theorem bL_spare_17_ok : z_ok cL_spare 17 bL_spare_17 21 = true := by decide +kernel
theorem iL_spare_17 (hr : z_run 6 bL_spare_17 ls st = some (ls', st')) (g : z_J Z mL_spare R k n Q 21 ls' st' h) : z_J Z mL_spare R k n Q 17 ls st h := z_jr bL_spare_17 bL_spare_17_ok hr g
theorem dL_spare_21 : decode cL_spare 21 = .ok (.ireturn, 1) := by decide +kernel
theorem iL_spare_21 (hk : k ≤ R.cells) (hs : n ≤ R.slots) (hq : Q (.inl (some (.int x))) h) : z_J Z mL_spare R k n Q 21 ls [.int x] h := z_iret (ty := .int) dL_spare_21 rfl rfl hk hs hq
def bL_spare_22 : zB := [(22, .iload 4, 24, nI 0)]
theorem bL_spare_22_ok : z_ok cL_spare 22 bL_spare_22 24 = true := by decide +kernel
theorem iL_spare_22 (hr : z_run 6 bL_spare_22 ls st = some (ls', st')) (g : z_J Z mL_spare R k n Q 24 ls' st' h) : z_J Z mL_spare R k n Q 22 ls st h := z_jr bL_spare_22 bL_spare_22_ok hr g
theorem dL_spare_24 : decode cL_spare 24 = .ok (.ireturn, 1) := by decide +kernel
theorem iL_spare_24 (hk : k ≤ R.cells) (hs : n ≤ R.slots) (hq : Q (.inl (some (.int x))) h) : z_J Z mL_spare R k n Q 24 ls [.int x] h := z_iret (ty := .int) dL_spare_24 rfl rfl hk hs hq
/-! L_most -/
def bL_most_0 : zB := [(0, .aload_n 0, 1, nI 0), (1, .iload_n 1, 2, nI 0), (2, .iload_n 2, 3, nI 0)]
theorem bL_most_0_ok : z_ok cL_most 0 bL_most_0 3 = true := by decide +kernel
theorem iL_most_0 (hr : z_run 5 bL_most_0 ls st = some (ls', st')) (g : z_J Z mL_most R k n Q 3 ls' st' h) : z_J Z mL_most R k n Q 0 ls st h := z_jr bL_most_0 bL_most_0_ok hr g
theorem dL_most_3 : decode cL_most 3 = .ok (.invokevirtual 67, 3) := by decide +kernel
theorem iL_most_3 (ha : z_args 2 st [] = some (As, .ref b :: rest)) (hc : z_chk rest (.ref b :: As) 5 = true) (hh : h r = some (b, .inr (6, fs))) (hR : z_rm R R' 5 k n) (gc : z_J Z mX5_most R' 0 0 Q' 0 (.ref b :: As) [] h) (kr : ∀ (v : Option Value) (h' : zH), Q' (.inl v) h' → z_J Z mL_most R (k + R'.cells) (n + R'.slots) Q 6 ls (v.toList ++ rest) h') (kx : ∀ (E : String) (h' : zH), Q' (.inr E) h' → z_JX Z mL_most R (k + R'.cells) (n + R'.slots) Q 3 ls E h') : z_J Z mL_most R k n Q 3 ls st h := z_callV (M' := mX5_most) dL_most_3 rfl cs_L_67 rfl gw577 gw578 ha hh (ci := 6) rfl hR (z_chk1 hc) (z_chk2 hc) (z_chk3 hc) gc kr kx
def bL_most_6 : zB := [(6, .istore_n 3, 7, nI 0), (7, .goto 13, 20, nI 0)]
theorem bL_most_6_ok : z_ok cL_most 6 bL_most_6 20 = true := by decide +kernel
theorem iL_most_6 (hr : z_run 5 bL_most_6 ls st = some (ls', st')) (g : z_J Z mL_most R k n Q 20 ls' st' h) : z_J Z mL_most R k n Q 6 ls st h := z_jr bL_most_6 bL_most_6_ok hr g
def bL_most_10 : zB := [(10, .astore 4, 12, nI 0), (12, .bipush (-71), 14, -71)]
theorem bL_most_10_ok : z_ok cL_most 10 bL_most_10 14 = true := by decide +kernel
theorem iL_most_10 (hr : z_run 5 bL_most_10 ls st = some (ls', st')) (g : z_J Z mL_most R k n Q 14 ls' st' h) : z_J Z mL_most R k n Q 10 ls st h := z_jr bL_most_10 bL_most_10_ok hr g
theorem dL_most_14 : decode cL_most 14 = .ok (.ireturn, 1) := by decide +kernel
theorem iL_most_14 (hk : k ≤ R.cells) (hs : n ≤ R.slots) (hq : Q (.inl (some (.int x))) h) : z_J Z mL_most R k n Q 14 ls [.int x] h := z_iret (ty := .int) dL_most_14 rfl rfl hk hs hq
def bL_most_15 : zB := [(15, .astore 4, 17, nI 0), (17, .bipush (-72), 19, -72)]
theorem bL_most_15_ok : z_ok cL_most 15 bL_most_15 19 = true := by decide +kernel
theorem iL_most_15 (hr : z_run 5 bL_most_15 ls st = some (ls', st')) (g : z_J Z mL_most R k n Q 19 ls' st' h) : z_J Z mL_most R k n Q 15 ls st h := z_jr bL_most_15 bL_most_15_ok hr g
theorem dL_most_19 : decode cL_most 19 = .ok (.ireturn, 1) := by decide +kernel
theorem iL_most_19 (hk : k ≤ R.cells) (hs : n ≤ R.slots) (hq : Q (.inl (some (.int x))) h) : z_J Z mL_most R k n Q 19 ls [.int x] h := z_iret (ty := .int) dL_most_19 rfl rfl hk hs hq
def bL_most_20 : zB := [(20, .iload_n 3, 21, nI 0)]
theorem bL_most_20_ok : z_ok cL_most 20 bL_most_20 21 = true := by decide +kernel
theorem iL_most_20 (hr : z_run 5 bL_most_20 ls st = some (ls', st')) (g : z_J Z mL_most R k n Q 21 ls' st' h) : z_J Z mL_most R k n Q 20 ls st h := z_jr bL_most_20 bL_most_20_ok hr g
theorem dL_most_21 : decode cL_most 21 = .ok (.ireturn, 1) := by decide +kernel
theorem iL_most_21 (hk : k ≤ R.cells) (hs : n ≤ R.slots) (hq : Q (.inl (some (.int x))) h) : z_J Z mL_most R k n Q 21 ls [.int x] h := z_iret (ty := .int) dL_most_21 rfl rfl hk hs hq
/-! L_counts -/
def bL_counts_0 : zB := [(0, .iload_n 2, 1, nI 0), (1, .istore_n 3, 2, nI 0)]
theorem bL_counts_0_ok : z_ok cL_counts 0 bL_counts_0 2 = true := by decide +kernel
theorem iL_counts_0 (hr : z_run 4 bL_counts_0 ls st = some (ls', st')) (g : z_J Z mL_counts R k n Q 2 ls' st' h) : z_J Z mL_counts R k n Q 0 ls st h := z_jr bL_counts_0 bL_counts_0_ok hr g
def bL_counts_2 : zB := [(2, .aload_n 0, 3, nI 0), (3, .iload_n 3, 4, nI 0)]
theorem bL_counts_2_ok : z_ok cL_counts 2 bL_counts_2 4 = true := by decide +kernel
theorem iL_counts_2 (hr : z_run 4 bL_counts_2 ls st = some (ls', st')) (g : z_J Z mL_counts R k n Q 4 ls' st' h) : z_J Z mL_counts R k n Q 2 ls st h := z_jr bL_counts_2 bL_counts_2_ok hr g
theorem dL_counts_4 : decode cL_counts 4 = .ok (.iaload, 1) := by decide +kernel
theorem iL_counts_4 {f : Nat → Int32} (hh : h r = some (a, .inl (0, N, .inl f))) (hi : i = nI j) (hj : j < N) (hN : N < 2 ^ 31) (g : z_J Z mL_counts R k n Q 5 ls (.int (f j) :: st) h) : z_J Z mL_counts R k n Q 4 ls (.int i :: .ref a :: st) h := z_iald dL_counts_4 rfl hh hi hj hN g
theorem dL_counts_5 : decode cL_counts 5 = .ok (.ifCond .lt 20, 3) := by decide +kernel
theorem iL_counts_5 (kt : x < 0 → z_J Z mL_counts R k n Q 25 ls st h) (kf : ¬ x < 0 → z_J Z mL_counts R k n Q 8 ls st h) : z_J Z mL_counts R k n Q 5 ls (.int x :: st) h := z_if_lt dL_counts_5 (tgt := 25) (by decide) rfl kt kf
def bL_counts_8 : zB := [(8, .aload_n 1, 9, nI 0), (9, .iconst 2, 10, nI 2)]
theorem bL_counts_8_ok : z_ok cL_counts 8 bL_counts_8 10 = true := by decide +kernel
theorem iL_counts_8 (hr : z_run 4 bL_counts_8 ls st = some (ls', st')) (g : z_J Z mL_counts R k n Q 10 ls' st' h) : z_J Z mL_counts R k n Q 8 ls st h := z_jr bL_counts_8 bL_counts_8_ok hr g
theorem dL_counts_10 : decode cL_counts 10 = .ok (.iaload, 1) := by decide +kernel
theorem iL_counts_10 {f : Nat → Int32} (hh : h r = some (a, .inl (0, N, .inl f))) (hi : i = nI j) (hj : j < N) (hN : N < 2 ^ 31) (g : z_J Z mL_counts R k n Q 11 ls (.int (f j) :: st) h) : z_J Z mL_counts R k n Q 10 ls (.int i :: .ref a :: st) h := z_iald dL_counts_10 rfl hh hi hj hN g
def bL_counts_11 : zB := [(11, .iload_n 3, 12, nI 0), (12, .ishr, 13, nI 0), (13, .iconst 1, 14, nI 1), (14, .iand, 15, nI 0)]
theorem bL_counts_11_ok : z_ok cL_counts 11 bL_counts_11 15 = true := by decide +kernel
theorem iL_counts_11 (hr : z_run 4 bL_counts_11 ls st = some (ls', st')) (g : z_J Z mL_counts R k n Q 15 ls' st' h) : z_J Z mL_counts R k n Q 11 ls st h := z_jr bL_counts_11 bL_counts_11_ok hr g
theorem dL_counts_15 : decode cL_counts 15 = .ok (.ifCond .ne 10, 3) := by decide +kernel
theorem iL_counts_15 (kt : ¬ x = 0 → z_J Z mL_counts R k n Q 25 ls st h) (kf : x = 0 → z_J Z mL_counts R k n Q 18 ls st h) : z_J Z mL_counts R k n Q 15 ls (.int x :: st) h := z_if_ne dL_counts_15 (tgt := 25) (by decide) rfl kt kf
def bL_counts_18 : zB := [(18, .aload_n 0, 19, nI 0), (19, .iload_n 3, 20, nI 0)]
theorem bL_counts_18_ok : z_ok cL_counts 18 bL_counts_18 20 = true := by decide +kernel
theorem iL_counts_18 (hr : z_run 4 bL_counts_18 ls st = some (ls', st')) (g : z_J Z mL_counts R k n Q 20 ls' st' h) : z_J Z mL_counts R k n Q 18 ls st h := z_jr bL_counts_18 bL_counts_18_ok hr g
theorem dL_counts_20 : decode cL_counts 20 = .ok (.iaload, 1) := by decide +kernel
theorem iL_counts_20 {f : Nat → Int32} (hh : h r = some (a, .inl (0, N, .inl f))) (hi : i = nI j) (hj : j < N) (hN : N < 2 ^ 31) (g : z_J Z mL_counts R k n Q 21 ls (.int (f j) :: st) h) : z_J Z mL_counts R k n Q 20 ls (.int i :: .ref a :: st) h := z_iald dL_counts_20 rfl hh hi hj hN g
def bL_counts_21 : zB := [(21, .istore_n 3, 22, nI 0), (22, .goto (-20), 2, nI 0)]
theorem bL_counts_21_ok : z_ok cL_counts 21 bL_counts_21 2 = true := by decide +kernel
theorem iL_counts_21 (hr : z_run 4 bL_counts_21 ls st = some (ls', st')) (g : z_J Z mL_counts R k n Q 2 ls' st' h) : z_J Z mL_counts R k n Q 21 ls st h := z_jr bL_counts_21 bL_counts_21_ok hr g
def bL_counts_25 : zB := [(25, .iload_n 3, 26, nI 0)]
theorem bL_counts_25_ok : z_ok cL_counts 25 bL_counts_25 26 = true := by decide +kernel
theorem iL_counts_25 (hr : z_run 4 bL_counts_25 ls st = some (ls', st')) (g : z_J Z mL_counts R k n Q 26 ls' st' h) : z_J Z mL_counts R k n Q 25 ls st h := z_jr bL_counts_25 bL_counts_25_ok hr g
theorem dL_counts_26 : decode cL_counts 26 = .ok (.ireturn, 1) := by decide +kernel
theorem iL_counts_26 (hk : k ≤ R.cells) (hs : n ≤ R.slots) (hq : Q (.inl (some (.int x))) h) : z_J Z mL_counts R k n Q 26 ls [.int x] h := z_iret (ty := .int) dL_counts_26 rfl rfl hk hs hq
/-! L_latest -/
def bL_latest_0 : zB := [(0, .iconst (-1), 1, -1), (1, .istore 5, 3, nI 0), (3, .iconst 0, 4, nI 0), (4, .istore 6, 6, nI 0)]
theorem bL_latest_0_ok : z_ok cL_latest 0 bL_latest_0 6 = true := by decide +kernel
theorem iL_latest_0 (hr : z_run 7 bL_latest_0 ls st = some (ls', st')) (g : z_J Z mL_latest R k n Q 6 ls' st' h) : z_J Z mL_latest R k n Q 0 ls st h := z_jr bL_latest_0 bL_latest_0_ok hr g
def bL_latest_6 : zB := [(6, .iload 6, 8, nI 0), (8, .aload_n 1, 9, nI 0), (9, .iconst 3, 10, nI 3)]
theorem bL_latest_6_ok : z_ok cL_latest 6 bL_latest_6 10 = true := by decide +kernel
theorem iL_latest_6 (hr : z_run 7 bL_latest_6 ls st = some (ls', st')) (g : z_J Z mL_latest R k n Q 10 ls' st' h) : z_J Z mL_latest R k n Q 6 ls st h := z_jr bL_latest_6 bL_latest_6_ok hr g
theorem dL_latest_10 : decode cL_latest 10 = .ok (.iaload, 1) := by decide +kernel
theorem iL_latest_10 {f : Nat → Int32} (hh : h r = some (a, .inl (0, N, .inl f))) (hi : i = nI j) (hj : j < N) (hN : N < 2 ^ 31) (g : z_J Z mL_latest R k n Q 11 ls (.int (f j) :: st) h) : z_J Z mL_latest R k n Q 10 ls (.int i :: .ref a :: st) h := z_iald dL_latest_10 rfl hh hi hj hN g
theorem dL_latest_11 : decode cL_latest 11 = .ok (.if_icmp .ge 42, 3) := by decide +kernel
theorem iL_latest_11 (kt : y ≤ x → z_J Z mL_latest R k n Q 53 ls st h) (kf : ¬ y ≤ x → z_J Z mL_latest R k n Q 14 ls st h) : z_J Z mL_latest R k n Q 11 ls (.int y :: .int x :: st) h := z_ic_ge dL_latest_11 (tgt := 53) (by decide) rfl kt kf
def bL_latest_14 : zB := [(14, .aload_n 0, 15, nI 0), (15, .iload 6, 17, nI 0)]
theorem bL_latest_14_ok : z_ok cL_latest 14 bL_latest_14 17 = true := by decide +kernel
theorem iL_latest_14 (hr : z_run 7 bL_latest_14 ls st = some (ls', st')) (g : z_J Z mL_latest R k n Q 17 ls' st' h) : z_J Z mL_latest R k n Q 14 ls st h := z_jr bL_latest_14 bL_latest_14_ok hr g
theorem dL_latest_17 : decode cL_latest 17 = .ok (.iaload, 1) := by decide +kernel
theorem iL_latest_17 {f : Nat → Int32} (hh : h r = some (a, .inl (0, N, .inl f))) (hi : i = nI j) (hj : j < N) (hN : N < 2 ^ 31) (g : z_J Z mL_latest R k n Q 18 ls (.int (f j) :: st) h) : z_J Z mL_latest R k n Q 17 ls (.int i :: .ref a :: st) h := z_iald dL_latest_17 rfl hh hi hj hN g
def bL_latest_18 : zB := [(18, .bipush 14, 20, nI 14), (20, .ishr, 21, nI 0), (21, .iload_n 2, 22, nI 0), (22, .bipush 8, 24, nI 8), (24, .iload_n 3, 25, nI 0), (25, .imul, 26, nI 0), (26, .iadd, 27, nI 0)]
theorem bL_latest_18_ok : z_ok cL_latest 18 bL_latest_18 27 = true := by decide +kernel
theorem iL_latest_18 (hr : z_run 7 bL_latest_18 ls st = some (ls', st')) (g : z_J Z mL_latest R k n Q 27 ls' st' h) : z_J Z mL_latest R k n Q 18 ls st h := z_jr bL_latest_18 bL_latest_18_ok hr g
theorem dL_latest_27 : decode cL_latest 27 = .ok (.if_icmp .ne 20, 3) := by decide +kernel
theorem iL_latest_27 (kt : ¬ x = y → z_J Z mL_latest R k n Q 47 ls st h) (kf : x = y → z_J Z mL_latest R k n Q 30 ls st h) : z_J Z mL_latest R k n Q 27 ls (.int y :: .int x :: st) h := z_ic_ne dL_latest_27 (tgt := 47) (by decide) rfl kt kf
def bL_latest_30 : zB := [(30, .aload_n 0, 31, nI 0), (31, .iload 6, 33, nI 0)]
theorem bL_latest_30_ok : z_ok cL_latest 30 bL_latest_30 33 = true := by decide +kernel
theorem iL_latest_30 (hr : z_run 7 bL_latest_30 ls st = some (ls', st')) (g : z_J Z mL_latest R k n Q 33 ls' st' h) : z_J Z mL_latest R k n Q 30 ls st h := z_jr bL_latest_30 bL_latest_30_ok hr g
theorem dL_latest_33 : decode cL_latest 33 = .ok (.iaload, 1) := by decide +kernel
theorem iL_latest_33 {f : Nat → Int32} (hh : h r = some (a, .inl (0, N, .inl f))) (hi : i = nI j) (hj : j < N) (hN : N < 2 ^ 31) (g : z_J Z mL_latest R k n Q 34 ls (.int (f j) :: st) h) : z_J Z mL_latest R k n Q 33 ls (.int i :: .ref a :: st) h := z_iald dL_latest_33 rfl hh hi hj hN g
def bL_latest_34 : zB := [(34, .sipush 1023, 37, nI 1023), (37, .iand, 38, nI 0), (38, .iload 4, 40, nI 0)]
theorem bL_latest_34_ok : z_ok cL_latest 34 bL_latest_34 40 = true := by decide +kernel
theorem iL_latest_34 (hr : z_run 7 bL_latest_34 ls st = some (ls', st')) (g : z_J Z mL_latest R k n Q 40 ls' st' h) : z_J Z mL_latest R k n Q 34 ls st h := z_jr bL_latest_34 bL_latest_34_ok hr g
theorem dL_latest_40 : decode cL_latest 40 = .ok (.if_icmp .gt 7, 3) := by decide +kernel
theorem iL_latest_40 (kt : y < x → z_J Z mL_latest R k n Q 47 ls st h) (kf : ¬ y < x → z_J Z mL_latest R k n Q 43 ls st h) : z_J Z mL_latest R k n Q 40 ls (.int y :: .int x :: st) h := z_ic_gt dL_latest_40 (tgt := 47) (by decide) rfl kt kf
def bL_latest_43 : zB := [(43, .iload 6, 45, nI 0), (45, .istore 5, 47, nI 0)]
theorem bL_latest_43_ok : z_ok cL_latest 43 bL_latest_43 47 = true := by decide +kernel
theorem iL_latest_43 (hr : z_run 7 bL_latest_43 ls st = some (ls', st')) (g : z_J Z mL_latest R k n Q 47 ls' st' h) : z_J Z mL_latest R k n Q 43 ls st h := z_jr bL_latest_43 bL_latest_43_ok hr g
def bL_latest_47 : zB := [(47, .iinc 6 1, 50, nI 1), (50, .goto (-44), 6, nI 0)]
theorem bL_latest_47_ok : z_ok cL_latest 47 bL_latest_47 6 = true := by decide +kernel
theorem iL_latest_47 (hr : z_run 7 bL_latest_47 ls st = some (ls', st')) (g : z_J Z mL_latest R k n Q 6 ls' st' h) : z_J Z mL_latest R k n Q 47 ls st h := z_jr bL_latest_47 bL_latest_47_ok hr g
def bL_latest_53 : zB := [(53, .iload 5, 55, nI 0)]
theorem bL_latest_53_ok : z_ok cL_latest 53 bL_latest_53 55 = true := by decide +kernel
theorem iL_latest_53 (hr : z_run 7 bL_latest_53 ls st = some (ls', st')) (g : z_J Z mL_latest R k n Q 55 ls' st' h) : z_J Z mL_latest R k n Q 53 ls st h := z_jr bL_latest_53 bL_latest_53_ok hr g
theorem dL_latest_55 : decode cL_latest 55 = .ok (.ireturn, 1) := by decide +kernel
theorem iL_latest_55 (hk : k ≤ R.cells) (hs : n ≤ R.slots) (hq : Q (.inl (some (.int x))) h) : z_J Z mL_latest R k n Q 55 ls [.int x] h := z_iret (ty := .int) dL_latest_55 rfl rfl hk hs hq
/-! L_version -/
def bL_version_0 : zB := [(0, .aload_n 0, 1, nI 0), (1, .aload_n 1, 2, nI 0), (2, .iload_n 2, 3, nI 0), (3, .iload_n 3, 4, nI 0), (4, .iload 4, 6, nI 0)]
theorem bL_version_0_ok : z_ok cL_version 0 bL_version_0 6 = true := by decide +kernel
theorem iL_version_0 (hr : z_run 6 bL_version_0 ls st = some (ls', st')) (g : z_J Z mL_version R k n Q 6 ls' st' h) : z_J Z mL_version R k n Q 0 ls st h := z_jr bL_version_0 bL_version_0_ok hr g
theorem dL_version_6 : decode cL_version 6 = .ok (.invokestatic 70, 3) := by decide +kernel
theorem iL_version_6 (ha : z_args 5 st [] = some (As, rest)) (hc : z_chk rest As 7 = true) (hR : z_rm R R' 7 k n) (gc : z_J Z mL_latest R' 0 0 Q' 0 As [] h) (kr : ∀ (v : Option Value) (h' : zH), Q' (.inl v) h' → z_J Z mL_version R (k + R'.cells) (n + R'.slots) Q 9 ls (v.toList ++ rest) h') (kx : ∀ (E : String) (h' : zH), Q' (.inr E) h' → z_JX Z mL_version R (k + R'.cells) (n + R'.slots) Q 6 ls E h') : z_J Z mL_version R k n Q 6 ls st h := z_callS (M' := mL_latest) dL_version_6 rfl cs_L_70 gw559 ha hR (z_chk1 hc) (z_chk2 hc) (z_chk3 hc) gc kr kx
def bL_version_9 : zB := [(9, .istore 5, 11, nI 0), (11, .iload 5, 13, nI 0)]
theorem bL_version_9_ok : z_ok cL_version 9 bL_version_9 13 = true := by decide +kernel
theorem iL_version_9 (hr : z_run 6 bL_version_9 ls st = some (ls', st')) (g : z_J Z mL_version R k n Q 13 ls' st' h) : z_J Z mL_version R k n Q 9 ls st h := z_jr bL_version_9 bL_version_9_ok hr g
theorem dL_version_13 : decode cL_version 13 = .ok (.ifCond .ge 7, 3) := by decide +kernel
theorem iL_version_13 (kt : 0 ≤ x → z_J Z mL_version R k n Q 20 ls st h) (kf : ¬ 0 ≤ x → z_J Z mL_version R k n Q 16 ls st h) : z_J Z mL_version R k n Q 13 ls (.int x :: st) h := z_if_ge dL_version_13 (tgt := 20) (by decide) rfl kt kf
def bL_version_16 : zB := [(16, .iconst 0, 17, nI 0), (17, .goto 13, 30, nI 0)]
theorem bL_version_16_ok : z_ok cL_version 16 bL_version_16 30 = true := by decide +kernel
theorem iL_version_16 (hr : z_run 6 bL_version_16 ls st = some (ls', st')) (g : z_J Z mL_version R k n Q 30 ls' st' h) : z_J Z mL_version R k n Q 16 ls st h := z_jr bL_version_16 bL_version_16_ok hr g
def bL_version_20 : zB := [(20, .aload_n 0, 21, nI 0), (21, .iload 5, 23, nI 0)]
theorem bL_version_20_ok : z_ok cL_version 20 bL_version_20 23 = true := by decide +kernel
theorem iL_version_20 (hr : z_run 6 bL_version_20 ls st = some (ls', st')) (g : z_J Z mL_version R k n Q 23 ls' st' h) : z_J Z mL_version R k n Q 20 ls st h := z_jr bL_version_20 bL_version_20_ok hr g
theorem dL_version_23 : decode cL_version 23 = .ok (.iaload, 1) := by decide +kernel
theorem iL_version_23 {f : Nat → Int32} (hh : h r = some (a, .inl (0, N, .inl f))) (hi : i = nI j) (hj : j < N) (hN : N < 2 ^ 31) (g : z_J Z mL_version R k n Q 24 ls (.int (f j) :: st) h) : z_J Z mL_version R k n Q 23 ls (.int i :: .ref a :: st) h := z_iald dL_version_23 rfl hh hi hj hN g
def bL_version_24 : zB := [(24, .bipush 10, 26, nI 10), (26, .ishr, 27, nI 0), (27, .bipush 15, 29, nI 15), (29, .iand, 30, nI 0)]
theorem bL_version_24_ok : z_ok cL_version 24 bL_version_24 30 = true := by decide +kernel
theorem iL_version_24 (hr : z_run 6 bL_version_24 ls st = some (ls', st')) (g : z_J Z mL_version R k n Q 30 ls' st' h) : z_J Z mL_version R k n Q 24 ls st h := z_jr bL_version_24 bL_version_24_ok hr g
theorem dL_version_30 : decode cL_version 30 = .ok (.ireturn, 1) := by decide +kernel
theorem iL_version_30 (hk : k ≤ R.cells) (hs : n ≤ R.slots) (hq : Q (.inl (some (.int x))) h) : z_J Z mL_version R k n Q 30 ls [.int x] h := z_iret (ty := .int) dL_version_30 rfl rfl hk hs hq
/-! L_rightsFor -/
def bL_rightsFor_0 : zB := [(0, .iconst 0, 1, nI 0), (1, .istore 6, 3, nI 0), (3, .iconst 0, 4, nI 0), (4, .istore 7, 6, nI 0)]
theorem bL_rightsFor_0_ok : z_ok cL_rightsFor 0 bL_rightsFor_0 6 = true := by decide +kernel
theorem iL_rightsFor_0 (hr : z_run 8 bL_rightsFor_0 ls st = some (ls', st')) (g : z_J Z mL_rightsFor R k n Q 6 ls' st' h) : z_J Z mL_rightsFor R k n Q 0 ls st h := z_jr bL_rightsFor_0 bL_rightsFor_0_ok hr g
def bL_rightsFor_6 : zB := [(6, .iload 7, 8, nI 0), (8, .aload_n 2, 9, nI 0), (9, .iconst 0, 10, nI 0)]
theorem bL_rightsFor_6_ok : z_ok cL_rightsFor 6 bL_rightsFor_6 10 = true := by decide +kernel
theorem iL_rightsFor_6 (hr : z_run 8 bL_rightsFor_6 ls st = some (ls', st')) (g : z_J Z mL_rightsFor R k n Q 10 ls' st' h) : z_J Z mL_rightsFor R k n Q 6 ls st h := z_jr bL_rightsFor_6 bL_rightsFor_6_ok hr g
theorem dL_rightsFor_10 : decode cL_rightsFor 10 = .ok (.iaload, 1) := by decide +kernel
theorem iL_rightsFor_10 {f : Nat → Int32} (hh : h r = some (a, .inl (0, N, .inl f))) (hi : i = nI j) (hj : j < N) (hN : N < 2 ^ 31) (g : z_J Z mL_rightsFor R k n Q 11 ls (.int (f j) :: st) h) : z_J Z mL_rightsFor R k n Q 10 ls (.int i :: .ref a :: st) h := z_iald dL_rightsFor_10 rfl hh hi hj hN g
theorem dL_rightsFor_11 : decode cL_rightsFor 11 = .ok (.if_icmp .ge 68, 3) := by decide +kernel
theorem iL_rightsFor_11 (kt : y ≤ x → z_J Z mL_rightsFor R k n Q 79 ls st h) (kf : ¬ y ≤ x → z_J Z mL_rightsFor R k n Q 14 ls st h) : z_J Z mL_rightsFor R k n Q 11 ls (.int y :: .int x :: st) h := z_ic_ge dL_rightsFor_11 (tgt := 79) (by decide) rfl kt kf
def bL_rightsFor_14 : zB := [(14, .aload_n 0, 15, nI 0), (15, .iload 7, 17, nI 0)]
theorem bL_rightsFor_14_ok : z_ok cL_rightsFor 14 bL_rightsFor_14 17 = true := by decide +kernel
theorem iL_rightsFor_14 (hr : z_run 8 bL_rightsFor_14 ls st = some (ls', st')) (g : z_J Z mL_rightsFor R k n Q 17 ls' st' h) : z_J Z mL_rightsFor R k n Q 14 ls st h := z_jr bL_rightsFor_14 bL_rightsFor_14_ok hr g
theorem dL_rightsFor_17 : decode cL_rightsFor 17 = .ok (.iaload, 1) := by decide +kernel
theorem iL_rightsFor_17 {f : Nat → Int32} (hh : h r = some (a, .inl (0, N, .inl f))) (hi : i = nI j) (hj : j < N) (hN : N < 2 ^ 31) (g : z_J Z mL_rightsFor R k n Q 18 ls (.int (f j) :: st) h) : z_J Z mL_rightsFor R k n Q 17 ls (.int i :: .ref a :: st) h := z_iald dL_rightsFor_17 rfl hh hi hj hN g
def bL_rightsFor_18 : zB := [(18, .iload 4, 20, nI 0), (20, .ishr, 21, nI 0), (21, .iconst 1, 22, nI 1), (22, .iand, 23, nI 0), (23, .iconst 1, 24, nI 1)]
theorem bL_rightsFor_18_ok : z_ok cL_rightsFor 18 bL_rightsFor_18 24 = true := by decide +kernel
theorem iL_rightsFor_18 (hr : z_run 8 bL_rightsFor_18 ls st = some (ls', st')) (g : z_J Z mL_rightsFor R k n Q 24 ls' st' h) : z_J Z mL_rightsFor R k n Q 18 ls st h := z_jr bL_rightsFor_18 bL_rightsFor_18_ok hr g
theorem dL_rightsFor_24 : decode cL_rightsFor 24 = .ok (.if_icmp .ne 49, 3) := by decide +kernel
theorem iL_rightsFor_24 (kt : ¬ x = y → z_J Z mL_rightsFor R k n Q 73 ls st h) (kf : x = y → z_J Z mL_rightsFor R k n Q 27 ls st h) : z_J Z mL_rightsFor R k n Q 24 ls (.int y :: .int x :: st) h := z_ic_ne dL_rightsFor_24 (tgt := 73) (by decide) rfl kt kf
def bL_rightsFor_27 : zB := [(27, .aload_n 0, 28, nI 0), (28, .iload 7, 30, nI 0)]
theorem bL_rightsFor_27_ok : z_ok cL_rightsFor 27 bL_rightsFor_27 30 = true := by decide +kernel
theorem iL_rightsFor_27 (hr : z_run 8 bL_rightsFor_27 ls st = some (ls', st')) (g : z_J Z mL_rightsFor R k n Q 30 ls' st' h) : z_J Z mL_rightsFor R k n Q 27 ls st h := z_jr bL_rightsFor_27 bL_rightsFor_27_ok hr g
theorem dL_rightsFor_30 : decode cL_rightsFor 30 = .ok (.iaload, 1) := by decide +kernel
theorem iL_rightsFor_30 {f : Nat → Int32} (hh : h r = some (a, .inl (0, N, .inl f))) (hi : i = nI j) (hj : j < N) (hN : N < 2 ^ 31) (g : z_J Z mL_rightsFor R k n Q 31 ls (.int (f j) :: st) h) : z_J Z mL_rightsFor R k n Q 30 ls (.int i :: .ref a :: st) h := z_iald dL_rightsFor_30 rfl hh hi hj hN g
def bL_rightsFor_31 : zB := [(31, .iconst 5, 32, nI 5), (32, .ishr, 33, nI 0), (33, .bipush 15, 35, nI 15), (35, .iand, 36, nI 0), (36, .iload 5, 38, nI 0)]
theorem bL_rightsFor_31_ok : z_ok cL_rightsFor 31 bL_rightsFor_31 38 = true := by decide +kernel
theorem iL_rightsFor_31 (hr : z_run 8 bL_rightsFor_31 ls st = some (ls', st')) (g : z_J Z mL_rightsFor R k n Q 38 ls' st' h) : z_J Z mL_rightsFor R k n Q 31 ls st h := z_jr bL_rightsFor_31 bL_rightsFor_31_ok hr g
theorem dL_rightsFor_38 : decode cL_rightsFor 38 = .ok (.if_icmp .lt 35, 3) := by decide +kernel
theorem iL_rightsFor_38 (kt : x < y → z_J Z mL_rightsFor R k n Q 73 ls st h) (kf : ¬ x < y → z_J Z mL_rightsFor R k n Q 41 ls st h) : z_J Z mL_rightsFor R k n Q 38 ls (.int y :: .int x :: st) h := z_ic_lt dL_rightsFor_38 (tgt := 73) (by decide) rfl kt kf
def bL_rightsFor_41 : zB := [(41, .aload_n 1, 42, nI 0), (42, .iload 7, 44, nI 0)]
theorem bL_rightsFor_41_ok : z_ok cL_rightsFor 41 bL_rightsFor_41 44 = true := by decide +kernel
theorem iL_rightsFor_41 (hr : z_run 8 bL_rightsFor_41 ls st = some (ls', st')) (g : z_J Z mL_rightsFor R k n Q 44 ls' st' h) : z_J Z mL_rightsFor R k n Q 41 ls st h := z_jr bL_rightsFor_41 bL_rightsFor_41_ok hr g
theorem dL_rightsFor_44 : decode cL_rightsFor 44 = .ok (.iaload, 1) := by decide +kernel
theorem iL_rightsFor_44 {f : Nat → Int32} (hh : h r = some (a, .inl (0, N, .inl f))) (hi : i = nI j) (hj : j < N) (hN : N < 2 ^ 31) (g : z_J Z mL_rightsFor R k n Q 45 ls (.int (f j) :: st) h) : z_J Z mL_rightsFor R k n Q 44 ls (.int i :: .ref a :: st) h := z_iald dL_rightsFor_44 rfl hh hi hj hN g
def bL_rightsFor_45 : zB := [(45, .sipush 1023, 48, nI 1023), (48, .iand, 49, nI 0), (49, .iload_n 3, 50, nI 0)]
theorem bL_rightsFor_45_ok : z_ok cL_rightsFor 45 bL_rightsFor_45 50 = true := by decide +kernel
theorem iL_rightsFor_45 (hr : z_run 8 bL_rightsFor_45 ls st = some (ls', st')) (g : z_J Z mL_rightsFor R k n Q 50 ls' st' h) : z_J Z mL_rightsFor R k n Q 45 ls st h := z_jr bL_rightsFor_45 bL_rightsFor_45_ok hr g
theorem dL_rightsFor_50 : decode cL_rightsFor 50 = .ok (.if_icmp .gt 23, 3) := by decide +kernel
theorem iL_rightsFor_50 (kt : y < x → z_J Z mL_rightsFor R k n Q 73 ls st h) (kf : ¬ y < x → z_J Z mL_rightsFor R k n Q 53 ls st h) : z_J Z mL_rightsFor R k n Q 50 ls (.int y :: .int x :: st) h := z_ic_gt dL_rightsFor_50 (tgt := 73) (by decide) rfl kt kf
def bL_rightsFor_53 : zB := [(53, .aload_n 1, 54, nI 0), (54, .iload 7, 56, nI 0)]
theorem bL_rightsFor_53_ok : z_ok cL_rightsFor 53 bL_rightsFor_53 56 = true := by decide +kernel
theorem iL_rightsFor_53 (hr : z_run 8 bL_rightsFor_53 ls st = some (ls', st')) (g : z_J Z mL_rightsFor R k n Q 56 ls' st' h) : z_J Z mL_rightsFor R k n Q 53 ls st h := z_jr bL_rightsFor_53 bL_rightsFor_53_ok hr g
theorem dL_rightsFor_56 : decode cL_rightsFor 56 = .ok (.iaload, 1) := by decide +kernel
theorem iL_rightsFor_56 {f : Nat → Int32} (hh : h r = some (a, .inl (0, N, .inl f))) (hi : i = nI j) (hj : j < N) (hN : N < 2 ^ 31) (g : z_J Z mL_rightsFor R k n Q 57 ls (.int (f j) :: st) h) : z_J Z mL_rightsFor R k n Q 56 ls (.int i :: .ref a :: st) h := z_iald dL_rightsFor_56 rfl hh hi hj hN g
def bL_rightsFor_57 : zB := [(57, .bipush 10, 59, nI 10), (59, .ishr, 60, nI 0), (60, .iload_n 3, 61, nI 0)]
theorem bL_rightsFor_57_ok : z_ok cL_rightsFor 57 bL_rightsFor_57 61 = true := by decide +kernel
theorem iL_rightsFor_57 (hr : z_run 8 bL_rightsFor_57 ls st = some (ls', st')) (g : z_J Z mL_rightsFor R k n Q 61 ls' st' h) : z_J Z mL_rightsFor R k n Q 57 ls st h := z_jr bL_rightsFor_57 bL_rightsFor_57_ok hr g
theorem dL_rightsFor_61 : decode cL_rightsFor 61 = .ok (.if_icmp .lt 12, 3) := by decide +kernel
theorem iL_rightsFor_61 (kt : x < y → z_J Z mL_rightsFor R k n Q 73 ls st h) (kf : ¬ x < y → z_J Z mL_rightsFor R k n Q 64 ls st h) : z_J Z mL_rightsFor R k n Q 61 ls (.int y :: .int x :: st) h := z_ic_lt dL_rightsFor_61 (tgt := 73) (by decide) rfl kt kf
def bL_rightsFor_64 : zB := [(64, .iload 6, 66, nI 0), (66, .iconst 1, 67, nI 1), (67, .iload 7, 69, nI 0), (69, .ishl, 70, nI 0), (70, .ior, 71, nI 0), (71, .istore 6, 73, nI 0)]
theorem bL_rightsFor_64_ok : z_ok cL_rightsFor 64 bL_rightsFor_64 73 = true := by decide +kernel
theorem iL_rightsFor_64 (hr : z_run 8 bL_rightsFor_64 ls st = some (ls', st')) (g : z_J Z mL_rightsFor R k n Q 73 ls' st' h) : z_J Z mL_rightsFor R k n Q 64 ls st h := z_jr bL_rightsFor_64 bL_rightsFor_64_ok hr g
def bL_rightsFor_73 : zB := [(73, .iinc 7 1, 76, nI 1), (76, .goto (-70), 6, nI 0)]
theorem bL_rightsFor_73_ok : z_ok cL_rightsFor 73 bL_rightsFor_73 6 = true := by decide +kernel
theorem iL_rightsFor_73 (hr : z_run 8 bL_rightsFor_73 ls st = some (ls', st')) (g : z_J Z mL_rightsFor R k n Q 6 ls' st' h) : z_J Z mL_rightsFor R k n Q 73 ls st h := z_jr bL_rightsFor_73 bL_rightsFor_73_ok hr g
def bL_rightsFor_79 : zB := [(79, .iload 6, 81, nI 0)]
theorem bL_rightsFor_79_ok : z_ok cL_rightsFor 79 bL_rightsFor_79 81 = true := by decide +kernel
theorem iL_rightsFor_79 (hr : z_run 8 bL_rightsFor_79 ls st = some (ls', st')) (g : z_J Z mL_rightsFor R k n Q 81 ls' st' h) : z_J Z mL_rightsFor R k n Q 79 ls st h := z_jr bL_rightsFor_79 bL_rightsFor_79_ok hr g
theorem dL_rightsFor_81 : decode cL_rightsFor 81 = .ok (.ireturn, 1) := by decide +kernel
theorem iL_rightsFor_81 (hk : k ≤ R.cells) (hs : n ≤ R.slots) (hq : Q (.inl (some (.int x))) h) : z_J Z mL_rightsFor R k n Q 81 ls [.int x] h := z_iret (ty := .int) dL_rightsFor_81 rfl rfl hk hs hq
/-! L_lay -/
def bL_lay_0 : zB := [(0, .aload 10, 2, nI 0), (2, .iconst 4, 3, nI 4), (3, .iconst 0, 4, nI 0)]
theorem bL_lay_0_ok : z_ok cL_lay 0 bL_lay_0 4 = true := by decide +kernel
theorem iL_lay_0 (hr : z_run 16 bL_lay_0 ls st = some (ls', st')) (g : z_J Z mL_lay R k n Q 4 ls' st' h) : z_J Z mL_lay R k n Q 0 ls st h := z_jr bL_lay_0 bL_lay_0_ok hr g
theorem dL_lay_4 : decode cL_lay 4 = .ok (.iastore, 1) := by decide +kernel
theorem iL_lay_4 {f : Nat → Int32} (hh : h r = some (a, .inl (0, N, .inl f))) (hi : i = nI j) (hj : j < N) (hN : N < 2 ^ 31) (g : z_J Z mL_lay R k n Q 5 ls st (z_u h r (a, .inl (0, N, .inl (upd f j x))))) : z_J Z mL_lay R k n Q 4 ls (.int x :: .int i :: .ref a :: st) h := z_iast dL_lay_4 rfl hh hi hj hN g
def bL_lay_5 : zB := [(5, .iconst 0, 6, nI 0), (6, .istore 11, 8, nI 0)]
theorem bL_lay_5_ok : z_ok cL_lay 5 bL_lay_5 8 = true := by decide +kernel
theorem iL_lay_5 (hr : z_run 16 bL_lay_5 ls st = some (ls', st')) (g : z_J Z mL_lay R k n Q 8 ls' st' h) : z_J Z mL_lay R k n Q 5 ls st h := z_jr bL_lay_5 bL_lay_5_ok hr g
def bL_lay_8 : zB := [(8, .iload 11, 10, nI 0), (10, .aload 10, 12, nI 0), (12, .iconst 1, 13, nI 1)]
theorem bL_lay_8_ok : z_ok cL_lay 8 bL_lay_8 13 = true := by decide +kernel
theorem iL_lay_8 (hr : z_run 16 bL_lay_8 ls st = some (ls', st')) (g : z_J Z mL_lay R k n Q 13 ls' st' h) : z_J Z mL_lay R k n Q 8 ls st h := z_jr bL_lay_8 bL_lay_8_ok hr g
theorem dL_lay_13 : decode cL_lay 13 = .ok (.iaload, 1) := by decide +kernel
theorem iL_lay_13 {f : Nat → Int32} (hh : h r = some (a, .inl (0, N, .inl f))) (hi : i = nI j) (hj : j < N) (hN : N < 2 ^ 31) (g : z_J Z mL_lay R k n Q 14 ls (.int (f j) :: st) h) : z_J Z mL_lay R k n Q 13 ls (.int i :: .ref a :: st) h := z_iald dL_lay_13 rfl hh hi hj hN g
theorem dL_lay_14 : decode cL_lay 14 = .ok (.if_icmp .ge 203, 3) := by decide +kernel
theorem iL_lay_14 (kt : y ≤ x → z_J Z mL_lay R k n Q 217 ls st h) (kf : ¬ y ≤ x → z_J Z mL_lay R k n Q 17 ls st h) : z_J Z mL_lay R k n Q 14 ls (.int y :: .int x :: st) h := z_ic_ge dL_lay_14 (tgt := 217) (by decide) rfl kt kf
def bL_lay_17 : zB := [(17, .aload_n 3, 18, nI 0), (18, .aload 10, 20, nI 0), (20, .iload 11, 22, nI 0)]
theorem bL_lay_17_ok : z_ok cL_lay 17 bL_lay_17 22 = true := by decide +kernel
theorem iL_lay_17 (hr : z_run 16 bL_lay_17 ls st = some (ls', st')) (g : z_J Z mL_lay R k n Q 22 ls' st' h) : z_J Z mL_lay R k n Q 17 ls st h := z_jr bL_lay_17 bL_lay_17_ok hr g
theorem dL_lay_22 : decode cL_lay 22 = .ok (.invokestatic 76, 3) := by decide +kernel
theorem iL_lay_22 (ha : z_args 3 st [] = some (As, rest)) (hc : z_chk rest As 4 = true) (hR : z_rm R R' 4 k n) (gc : z_J Z mL_counts R' 0 0 Q' 0 As [] h) (kr : ∀ (v : Option Value) (h' : zH), Q' (.inl v) h' → z_J Z mL_lay R (k + R'.cells) (n + R'.slots) Q 25 ls (v.toList ++ rest) h') (kx : ∀ (E : String) (h' : zH), Q' (.inr E) h' → z_JX Z mL_lay R (k + R'.cells) (n + R'.slots) Q 22 ls E h') : z_J Z mL_lay R k n Q 22 ls st h := z_callS (M' := mL_counts) dL_lay_22 rfl cs_L_76 gw549 ha hR (z_chk1 hc) (z_chk2 hc) (z_chk3 hc) gc kr kx
def bL_lay_25 : zB := [(25, .iload 11, 27, nI 0)]
theorem bL_lay_25_ok : z_ok cL_lay 25 bL_lay_25 27 = true := by decide +kernel
theorem iL_lay_25 (hr : z_run 16 bL_lay_25 ls st = some (ls', st')) (g : z_J Z mL_lay R k n Q 27 ls' st' h) : z_J Z mL_lay R k n Q 25 ls st h := z_jr bL_lay_25 bL_lay_25_ok hr g
theorem dL_lay_27 : decode cL_lay 27 = .ok (.if_icmp .eq 6, 3) := by decide +kernel
theorem iL_lay_27 (kt : x = y → z_J Z mL_lay R k n Q 33 ls st h) (kf : ¬ x = y → z_J Z mL_lay R k n Q 30 ls st h) : z_J Z mL_lay R k n Q 27 ls (.int y :: .int x :: st) h := z_ic_eq dL_lay_27 (tgt := 33) (by decide) rfl kt kf
def bL_lay_30 : zB := [(30, .goto 181, 211, nI 0)]
theorem bL_lay_30_ok : z_ok cL_lay 30 bL_lay_30 211 = true := by decide +kernel
theorem iL_lay_30 (hr : z_run 16 bL_lay_30 ls st = some (ls', st')) (g : z_J Z mL_lay R k n Q 211 ls' st' h) : z_J Z mL_lay R k n Q 30 ls st h := z_jr bL_lay_30 bL_lay_30_ok hr g
def bL_lay_33 : zB := [(33, .iconst 0, 34, nI 0), (34, .istore 12, 36, nI 0)]
theorem bL_lay_33_ok : z_ok cL_lay 33 bL_lay_33 36 = true := by decide +kernel
theorem iL_lay_33 (hr : z_run 16 bL_lay_33 ls st = some (ls', st')) (g : z_J Z mL_lay R k n Q 36 ls' st' h) : z_J Z mL_lay R k n Q 33 ls st h := z_jr bL_lay_33 bL_lay_33_ok hr g
def bL_lay_36 : zB := [(36, .iload 12, 38, nI 0), (38, .iconst 5, 39, nI 5)]
theorem bL_lay_36_ok : z_ok cL_lay 36 bL_lay_36 39 = true := by decide +kernel
theorem iL_lay_36 (hr : z_run 16 bL_lay_36 ls st = some (ls', st')) (g : z_J Z mL_lay R k n Q 39 ls' st' h) : z_J Z mL_lay R k n Q 36 ls st h := z_jr bL_lay_36 bL_lay_36_ok hr g
theorem dL_lay_39 : decode cL_lay 39 = .ok (.if_icmp .ge 172, 3) := by decide +kernel
theorem iL_lay_39 (kt : y ≤ x → z_J Z mL_lay R k n Q 211 ls st h) (kf : ¬ y ≤ x → z_J Z mL_lay R k n Q 42 ls st h) : z_J Z mL_lay R k n Q 39 ls (.int y :: .int x :: st) h := z_ic_ge dL_lay_39 (tgt := 211) (by decide) rfl kt kf
def bL_lay_42 : zB := [(42, .iconst 0, 43, nI 0), (43, .istore 13, 45, nI 0), (45, .iload 11, 47, nI 0), (47, .istore 14, 49, nI 0)]
theorem bL_lay_42_ok : z_ok cL_lay 42 bL_lay_42 49 = true := by decide +kernel
theorem iL_lay_42 (hr : z_run 16 bL_lay_42 ls st = some (ls', st')) (g : z_J Z mL_lay R k n Q 49 ls' st' h) : z_J Z mL_lay R k n Q 42 ls st h := z_jr bL_lay_42 bL_lay_42_ok hr g
def bL_lay_49 : zB := [(49, .iload 14, 51, nI 0), (51, .aload 10, 53, nI 0), (53, .iconst 1, 54, nI 1)]
theorem bL_lay_49_ok : z_ok cL_lay 49 bL_lay_49 54 = true := by decide +kernel
theorem iL_lay_49 (hr : z_run 16 bL_lay_49 ls st = some (ls', st')) (g : z_J Z mL_lay R k n Q 54 ls' st' h) : z_J Z mL_lay R k n Q 49 ls st h := z_jr bL_lay_49 bL_lay_49_ok hr g
theorem dL_lay_54 : decode cL_lay 54 = .ok (.iaload, 1) := by decide +kernel
theorem iL_lay_54 {f : Nat → Int32} (hh : h r = some (a, .inl (0, N, .inl f))) (hi : i = nI j) (hj : j < N) (hN : N < 2 ^ 31) (g : z_J Z mL_lay R k n Q 55 ls (.int (f j) :: st) h) : z_J Z mL_lay R k n Q 54 ls (.int i :: .ref a :: st) h := z_iald dL_lay_54 rfl hh hi hj hN g
theorem dL_lay_55 : decode cL_lay 55 = .ok (.if_icmp .ge 56, 3) := by decide +kernel
theorem iL_lay_55 (kt : y ≤ x → z_J Z mL_lay R k n Q 111 ls st h) (kf : ¬ y ≤ x → z_J Z mL_lay R k n Q 58 ls st h) : z_J Z mL_lay R k n Q 55 ls (.int y :: .int x :: st) h := z_ic_ge dL_lay_55 (tgt := 111) (by decide) rfl kt kf
def bL_lay_58 : zB := [(58, .aload_n 3, 59, nI 0), (59, .aload 10, 61, nI 0), (61, .iload 14, 63, nI 0)]
theorem bL_lay_58_ok : z_ok cL_lay 58 bL_lay_58 63 = true := by decide +kernel
theorem iL_lay_58 (hr : z_run 16 bL_lay_58 ls st = some (ls', st')) (g : z_J Z mL_lay R k n Q 63 ls' st' h) : z_J Z mL_lay R k n Q 58 ls st h := z_jr bL_lay_58 bL_lay_58_ok hr g
theorem dL_lay_63 : decode cL_lay 63 = .ok (.invokestatic 76, 3) := by decide +kernel
theorem iL_lay_63 (ha : z_args 3 st [] = some (As, rest)) (hc : z_chk rest As 4 = true) (hR : z_rm R R' 4 k n) (gc : z_J Z mL_counts R' 0 0 Q' 0 As [] h) (kr : ∀ (v : Option Value) (h' : zH), Q' (.inl v) h' → z_J Z mL_lay R (k + R'.cells) (n + R'.slots) Q 66 ls (v.toList ++ rest) h') (kx : ∀ (E : String) (h' : zH), Q' (.inr E) h' → z_JX Z mL_lay R (k + R'.cells) (n + R'.slots) Q 63 ls E h') : z_J Z mL_lay R k n Q 63 ls st h := z_callS (M' := mL_counts) dL_lay_63 rfl cs_L_76 gw549 ha hR (z_chk1 hc) (z_chk2 hc) (z_chk3 hc) gc kr kx
def bL_lay_66 : zB := [(66, .iload 11, 68, nI 0)]
theorem bL_lay_66_ok : z_ok cL_lay 66 bL_lay_66 68 = true := by decide +kernel
theorem iL_lay_66 (hr : z_run 16 bL_lay_66 ls st = some (ls', st')) (g : z_J Z mL_lay R k n Q 68 ls' st' h) : z_J Z mL_lay R k n Q 66 ls st h := z_jr bL_lay_66 bL_lay_66_ok hr g
theorem dL_lay_68 : decode cL_lay 68 = .ok (.if_icmp .ne 18, 3) := by decide +kernel
theorem iL_lay_68 (kt : ¬ x = y → z_J Z mL_lay R k n Q 86 ls st h) (kf : x = y → z_J Z mL_lay R k n Q 71 ls st h) : z_J Z mL_lay R k n Q 68 ls (.int y :: .int x :: st) h := z_ic_ne dL_lay_68 (tgt := 86) (by decide) rfl kt kf
def bL_lay_71 : zB := [(71, .aload 6, 73, nI 0), (73, .aload 10, 75, nI 0), (75, .iload 14, 77, nI 0), (77, .iload 12, 79, nI 0), (79, .iload_n 0, 80, nI 0)]
theorem bL_lay_71_ok : z_ok cL_lay 71 bL_lay_71 80 = true := by decide +kernel
theorem iL_lay_71 (hr : z_run 16 bL_lay_71 ls st = some (ls', st')) (g : z_J Z mL_lay R k n Q 80 ls' st' h) : z_J Z mL_lay R k n Q 71 ls st h := z_jr bL_lay_71 bL_lay_71_ok hr g
theorem dL_lay_80 : decode cL_lay 80 = .ok (.invokestatic 80, 3) := by decide +kernel
theorem iL_lay_80 (ha : z_args 5 st [] = some (As, rest)) (hc : z_chk rest As 6 = true) (hR : z_rm R R' 6 k n) (gc : z_J Z mL_version R' 0 0 Q' 0 As [] h) (kr : ∀ (v : Option Value) (h' : zH), Q' (.inl v) h' → z_J Z mL_lay R (k + R'.cells) (n + R'.slots) Q 83 ls (v.toList ++ rest) h') (kx : ∀ (E : String) (h' : zH), Q' (.inr E) h' → z_JX Z mL_lay R (k + R'.cells) (n + R'.slots) Q 80 ls E h') : z_J Z mL_lay R k n Q 80 ls st h := z_callS (M' := mL_version) dL_lay_80 rfl cs_L_80 gw568 ha hR (z_chk1 hc) (z_chk2 hc) (z_chk3 hc) gc kr kx
def bL_lay_83 : zB := [(83, .goto 4, 87, nI 0)]
theorem bL_lay_83_ok : z_ok cL_lay 83 bL_lay_83 87 = true := by decide +kernel
theorem iL_lay_83 (hr : z_run 16 bL_lay_83 ls st = some (ls', st')) (g : z_J Z mL_lay R k n Q 87 ls' st' h) : z_J Z mL_lay R k n Q 83 ls st h := z_jr bL_lay_83 bL_lay_83_ok hr g
def bL_lay_86 : zB := [(86, .iconst 0, 87, nI 0)]
theorem bL_lay_86_ok : z_ok cL_lay 86 bL_lay_86 87 = true := by decide +kernel
theorem iL_lay_86 (hr : z_run 16 bL_lay_86 ls st = some (ls', st')) (g : z_J Z mL_lay R k n Q 87 ls' st' h) : z_J Z mL_lay R k n Q 86 ls st h := z_jr bL_lay_86 bL_lay_86_ok hr g
def bL_lay_87 : zB := [(87, .istore 15, 89, nI 0), (89, .iload 15, 91, nI 0), (91, .iload 13, 93, nI 0)]
theorem bL_lay_87_ok : z_ok cL_lay 87 bL_lay_87 93 = true := by decide +kernel
theorem iL_lay_87 (hr : z_run 16 bL_lay_87 ls st = some (ls', st')) (g : z_J Z mL_lay R k n Q 93 ls' st' h) : z_J Z mL_lay R k n Q 87 ls st h := z_jr bL_lay_87 bL_lay_87_ok hr g
theorem dL_lay_93 : decode cL_lay 93 = .ok (.if_icmp .le 8, 3) := by decide +kernel
theorem iL_lay_93 (kt : x ≤ y → z_J Z mL_lay R k n Q 101 ls st h) (kf : ¬ x ≤ y → z_J Z mL_lay R k n Q 96 ls st h) : z_J Z mL_lay R k n Q 93 ls (.int y :: .int x :: st) h := z_ic_le dL_lay_93 (tgt := 101) (by decide) rfl kt kf
def bL_lay_96 : zB := [(96, .iload 15, 98, nI 0), (98, .goto 5, 103, nI 0)]
theorem bL_lay_96_ok : z_ok cL_lay 96 bL_lay_96 103 = true := by decide +kernel
theorem iL_lay_96 (hr : z_run 16 bL_lay_96 ls st = some (ls', st')) (g : z_J Z mL_lay R k n Q 103 ls' st' h) : z_J Z mL_lay R k n Q 96 ls st h := z_jr bL_lay_96 bL_lay_96_ok hr g
def bL_lay_101 : zB := [(101, .iload 13, 103, nI 0)]
theorem bL_lay_101_ok : z_ok cL_lay 101 bL_lay_101 103 = true := by decide +kernel
theorem iL_lay_101 (hr : z_run 16 bL_lay_101 ls st = some (ls', st')) (g : z_J Z mL_lay R k n Q 103 ls' st' h) : z_J Z mL_lay R k n Q 101 ls st h := z_jr bL_lay_101 bL_lay_101_ok hr g
def bL_lay_103 : zB := [(103, .istore 13, 105, nI 0), (105, .iinc 14 1, 108, nI 1), (108, .goto (-59), 49, nI 0)]
theorem bL_lay_103_ok : z_ok cL_lay 103 bL_lay_103 49 = true := by decide +kernel
theorem iL_lay_103 (hr : z_run 16 bL_lay_103 ls st = some (ls', st')) (g : z_J Z mL_lay R k n Q 49 ls' st' h) : z_J Z mL_lay R k n Q 103 ls st h := z_jr bL_lay_103 bL_lay_103_ok hr g
def bL_lay_111 : zB := [(111, .iload 13, 113, nI 0)]
theorem bL_lay_111_ok : z_ok cL_lay 111 bL_lay_111 113 = true := by decide +kernel
theorem iL_lay_111 (hr : z_run 16 bL_lay_111 ls st = some (ls', st')) (g : z_J Z mL_lay R k n Q 113 ls' st' h) : z_J Z mL_lay R k n Q 111 ls st h := z_jr bL_lay_111 bL_lay_111_ok hr g
theorem dL_lay_113 : decode cL_lay 113 = .ok (.ifCond .ne 6, 3) := by decide +kernel
theorem iL_lay_113 (kt : ¬ x = 0 → z_J Z mL_lay R k n Q 119 ls st h) (kf : x = 0 → z_J Z mL_lay R k n Q 116 ls st h) : z_J Z mL_lay R k n Q 113 ls (.int x :: st) h := z_if_ne dL_lay_113 (tgt := 119) (by decide) rfl kt kf
def bL_lay_116 : zB := [(116, .goto 89, 205, nI 0)]
theorem bL_lay_116_ok : z_ok cL_lay 116 bL_lay_116 205 = true := by decide +kernel
theorem iL_lay_116 (hr : z_run 16 bL_lay_116 ls st = some (ls', st')) (g : z_J Z mL_lay R k n Q 205 ls' st' h) : z_J Z mL_lay R k n Q 116 ls st h := z_jr bL_lay_116 bL_lay_116_ok hr g
def bL_lay_119 : zB := [(119, .aload 7, 121, nI 0), (121, .aload 10, 123, nI 0), (123, .iconst 4, 124, nI 4)]
theorem bL_lay_119_ok : z_ok cL_lay 119 bL_lay_119 124 = true := by decide +kernel
theorem iL_lay_119 (hr : z_run 16 bL_lay_119 ls st = some (ls', st')) (g : z_J Z mL_lay R k n Q 124 ls' st' h) : z_J Z mL_lay R k n Q 119 ls st h := z_jr bL_lay_119 bL_lay_119_ok hr g
theorem dL_lay_124 : decode cL_lay 124 = .ok (.iaload, 1) := by decide +kernel
theorem iL_lay_124 {f : Nat → Int32} (hh : h r = some (a, .inl (0, N, .inl f))) (hi : i = nI j) (hj : j < N) (hN : N < 2 ^ 31) (g : z_J Z mL_lay R k n Q 125 ls (.int (f j) :: st) h) : z_J Z mL_lay R k n Q 124 ls (.int i :: .ref a :: st) h := z_iald dL_lay_124 rfl hh hi hj hN g
def bL_lay_125 : zB := [(125, .bipush 100, 127, nI 100), (127, .iload 11, 129, nI 0), (129, .imul, 130, nI 0), (130, .bipush 10, 132, nI 10), (132, .iload 12, 134, nI 0), (134, .imul, 135, nI 0), (135, .iadd, 136, nI 0), (136, .iload 13, 138, nI 0), (138, .iadd, 139, nI 0)]
theorem bL_lay_125_ok : z_ok cL_lay 125 bL_lay_125 139 = true := by decide +kernel
theorem iL_lay_125 (hr : z_run 16 bL_lay_125 ls st = some (ls', st')) (g : z_J Z mL_lay R k n Q 139 ls' st' h) : z_J Z mL_lay R k n Q 125 ls st h := z_jr bL_lay_125 bL_lay_125_ok hr g
theorem dL_lay_139 : decode cL_lay 139 = .ok (.iastore, 1) := by decide +kernel
theorem iL_lay_139 {f : Nat → Int32} (hh : h r = some (a, .inl (0, N, .inl f))) (hi : i = nI j) (hj : j < N) (hN : N < 2 ^ 31) (g : z_J Z mL_lay R k n Q 140 ls st (z_u h r (a, .inl (0, N, .inl (upd f j x))))) : z_J Z mL_lay R k n Q 139 ls (.int x :: .int i :: .ref a :: st) h := z_iast dL_lay_139 rfl hh hi hj hN g
def bL_lay_140 : zB := [(140, .aload 8, 142, nI 0), (142, .aload 10, 144, nI 0), (144, .iconst 4, 145, nI 4)]
theorem bL_lay_140_ok : z_ok cL_lay 140 bL_lay_140 145 = true := by decide +kernel
theorem iL_lay_140 (hr : z_run 16 bL_lay_140 ls st = some (ls', st')) (g : z_J Z mL_lay R k n Q 145 ls' st' h) : z_J Z mL_lay R k n Q 140 ls st h := z_jr bL_lay_140 bL_lay_140_ok hr g
theorem dL_lay_145 : decode cL_lay 145 = .ok (.iaload, 1) := by decide +kernel
theorem iL_lay_145 {f : Nat → Int32} (hh : h r = some (a, .inl (0, N, .inl f))) (hi : i = nI j) (hj : j < N) (hN : N < 2 ^ 31) (g : z_J Z mL_lay R k n Q 146 ls (.int (f j) :: st) h) : z_J Z mL_lay R k n Q 145 ls (.int i :: .ref a :: st) h := z_iald dL_lay_145 rfl hh hi hj hN g
def bL_lay_146 : zB := [(146, .aload 4, 148, nI 0), (148, .iload 11, 150, nI 0)]
theorem bL_lay_146_ok : z_ok cL_lay 146 bL_lay_146 150 = true := by decide +kernel
theorem iL_lay_146 (hr : z_run 16 bL_lay_146 ls st = some (ls', st')) (g : z_J Z mL_lay R k n Q 150 ls' st' h) : z_J Z mL_lay R k n Q 146 ls st h := z_jr bL_lay_146 bL_lay_146_ok hr g
theorem dL_lay_150 : decode cL_lay 150 = .ok (.iaload, 1) := by decide +kernel
theorem iL_lay_150 {f : Nat → Int32} (hh : h r = some (a, .inl (0, N, .inl f))) (hi : i = nI j) (hj : j < N) (hN : N < 2 ^ 31) (g : z_J Z mL_lay R k n Q 151 ls (.int (f j) :: st) h) : z_J Z mL_lay R k n Q 150 ls (.int i :: .ref a :: st) h := z_iald dL_lay_150 rfl hh hi hj hN g
def bL_lay_151 : zB := [(151, .aload 5, 153, nI 0), (153, .iload 12, 155, nI 0)]
theorem bL_lay_151_ok : z_ok cL_lay 151 bL_lay_151 155 = true := by decide +kernel
theorem iL_lay_151 (hr : z_run 16 bL_lay_151 ls st = some (ls', st')) (g : z_J Z mL_lay R k n Q 155 ls' st' h) : z_J Z mL_lay R k n Q 151 ls st h := z_jr bL_lay_151 bL_lay_151_ok hr g
theorem dL_lay_155 : decode cL_lay 155 = .ok (.iaload, 1) := by decide +kernel
theorem iL_lay_155 {f : Nat → Int32} (hh : h r = some (a, .inl (0, N, .inl f))) (hi : i = nI j) (hj : j < N) (hN : N < 2 ^ 31) (g : z_J Z mL_lay R k n Q 156 ls (.int (f j) :: st) h) : z_J Z mL_lay R k n Q 155 ls (.int i :: .ref a :: st) h := z_iald dL_lay_155 rfl hh hi hj hN g
theorem dL_lay_156 : decode cL_lay 156 = .ok (.idiv, 1) := by decide +kernel
theorem iL_lay_156 (hy : ¬ y = 0) (g : z_J Z mL_lay R k n Q 157 ls (.int (x / y) :: st) h) : z_J Z mL_lay R k n Q 156 ls (.int y :: .int x :: st) h := z_idiv dL_lay_156 rfl hy g
def bL_lay_157 : zB := [(157, .aload 4, 159, nI 0), (159, .iload 11, 161, nI 0)]
theorem bL_lay_157_ok : z_ok cL_lay 157 bL_lay_157 161 = true := by decide +kernel
theorem iL_lay_157 (hr : z_run 16 bL_lay_157 ls st = some (ls', st')) (g : z_J Z mL_lay R k n Q 161 ls' st' h) : z_J Z mL_lay R k n Q 157 ls st h := z_jr bL_lay_157 bL_lay_157_ok hr g
theorem dL_lay_161 : decode cL_lay 161 = .ok (.iaload, 1) := by decide +kernel
theorem iL_lay_161 {f : Nat → Int32} (hh : h r = some (a, .inl (0, N, .inl f))) (hi : i = nI j) (hj : j < N) (hN : N < 2 ^ 31) (g : z_J Z mL_lay R k n Q 162 ls (.int (f j) :: st) h) : z_J Z mL_lay R k n Q 161 ls (.int i :: .ref a :: st) h := z_iald dL_lay_161 rfl hh hi hj hN g
def bL_lay_162 : zB := [(162, .aload 5, 164, nI 0), (164, .iload 12, 166, nI 0)]
theorem bL_lay_162_ok : z_ok cL_lay 162 bL_lay_162 166 = true := by decide +kernel
theorem iL_lay_162 (hr : z_run 16 bL_lay_162 ls st = some (ls', st')) (g : z_J Z mL_lay R k n Q 166 ls' st' h) : z_J Z mL_lay R k n Q 162 ls st h := z_jr bL_lay_162 bL_lay_162_ok hr g
theorem dL_lay_166 : decode cL_lay 166 = .ok (.iaload, 1) := by decide +kernel
theorem iL_lay_166 {f : Nat → Int32} (hh : h r = some (a, .inl (0, N, .inl f))) (hi : i = nI j) (hj : j < N) (hN : N < 2 ^ 31) (g : z_J Z mL_lay R k n Q 167 ls (.int (f j) :: st) h) : z_J Z mL_lay R k n Q 166 ls (.int i :: .ref a :: st) h := z_iald dL_lay_166 rfl hh hi hj hN g
theorem dL_lay_167 : decode cL_lay 167 = .ok (.irem, 1) := by decide +kernel
theorem iL_lay_167 (hy : ¬ y = 0) (g : z_J Z mL_lay R k n Q 168 ls (.int (x - x / y * y) :: st) h) : z_J Z mL_lay R k n Q 167 ls (.int y :: .int x :: st) h := z_irem dL_lay_167 rfl hy g
theorem dL_lay_168 : decode cL_lay 168 = .ok (.ifCond .le 7, 3) := by decide +kernel
theorem iL_lay_168 (kt : x ≤ 0 → z_J Z mL_lay R k n Q 175 ls st h) (kf : ¬ x ≤ 0 → z_J Z mL_lay R k n Q 171 ls st h) : z_J Z mL_lay R k n Q 168 ls (.int x :: st) h := z_if_le dL_lay_168 (tgt := 175) (by decide) rfl kt kf
def bL_lay_171 : zB := [(171, .iconst 1, 172, nI 1), (172, .goto 4, 176, nI 0)]
theorem bL_lay_171_ok : z_ok cL_lay 171 bL_lay_171 176 = true := by decide +kernel
theorem iL_lay_171 (hr : z_run 16 bL_lay_171 ls st = some (ls', st')) (g : z_J Z mL_lay R k n Q 176 ls' st' h) : z_J Z mL_lay R k n Q 171 ls st h := z_jr bL_lay_171 bL_lay_171_ok hr g
def bL_lay_175 : zB := [(175, .iconst 0, 176, nI 0)]
theorem bL_lay_175_ok : z_ok cL_lay 175 bL_lay_175 176 = true := by decide +kernel
theorem iL_lay_175 (hr : z_run 16 bL_lay_175 ls st = some (ls', st')) (g : z_J Z mL_lay R k n Q 176 ls' st' h) : z_J Z mL_lay R k n Q 175 ls st h := z_jr bL_lay_175 bL_lay_175_ok hr g
def bL_lay_176 : zB := [(176, .iadd, 177, nI 0)]
theorem bL_lay_176_ok : z_ok cL_lay 176 bL_lay_176 177 = true := by decide +kernel
theorem iL_lay_176 (hr : z_run 16 bL_lay_176 ls st = some (ls', st')) (g : z_J Z mL_lay R k n Q 177 ls' st' h) : z_J Z mL_lay R k n Q 176 ls st h := z_jr bL_lay_176 bL_lay_176_ok hr g
theorem dL_lay_177 : decode cL_lay 177 = .ok (.iastore, 1) := by decide +kernel
theorem iL_lay_177 {f : Nat → Int32} (hh : h r = some (a, .inl (0, N, .inl f))) (hi : i = nI j) (hj : j < N) (hN : N < 2 ^ 31) (g : z_J Z mL_lay R k n Q 178 ls st (z_u h r (a, .inl (0, N, .inl (upd f j x))))) : z_J Z mL_lay R k n Q 177 ls (.int x :: .int i :: .ref a :: st) h := z_iast dL_lay_177 rfl hh hi hj hN g
def bL_lay_178 : zB := [(178, .aload 9, 180, nI 0), (180, .aload 10, 182, nI 0), (182, .iconst 4, 183, nI 4)]
theorem bL_lay_178_ok : z_ok cL_lay 178 bL_lay_178 183 = true := by decide +kernel
theorem iL_lay_178 (hr : z_run 16 bL_lay_178 ls st = some (ls', st')) (g : z_J Z mL_lay R k n Q 183 ls' st' h) : z_J Z mL_lay R k n Q 178 ls st h := z_jr bL_lay_178 bL_lay_178_ok hr g
theorem dL_lay_183 : decode cL_lay 183 = .ok (.iaload, 1) := by decide +kernel
theorem iL_lay_183 {f : Nat → Int32} (hh : h r = some (a, .inl (0, N, .inl f))) (hi : i = nI j) (hj : j < N) (hN : N < 2 ^ 31) (g : z_J Z mL_lay R k n Q 184 ls (.int (f j) :: st) h) : z_J Z mL_lay R k n Q 183 ls (.int i :: .ref a :: st) h := z_iald dL_lay_183 rfl hh hi hj hN g
def bL_lay_184 : zB := [(184, .aload_n 1, 185, nI 0), (185, .aload_n 2, 186, nI 0), (186, .aload 10, 188, nI 0), (188, .iload_n 0, 189, nI 0), (189, .iload 12, 191, nI 0), (191, .iload 13, 193, nI 0)]
theorem bL_lay_184_ok : z_ok cL_lay 184 bL_lay_184 193 = true := by decide +kernel
theorem iL_lay_184 (hr : z_run 16 bL_lay_184 ls st = some (ls', st')) (g : z_J Z mL_lay R k n Q 193 ls' st' h) : z_J Z mL_lay R k n Q 184 ls st h := z_jr bL_lay_184 bL_lay_184_ok hr g
theorem dL_lay_193 : decode cL_lay 193 = .ok (.invokestatic 83, 3) := by decide +kernel
theorem iL_lay_193 (ha : z_args 6 st [] = some (As, rest)) (hc : z_chk rest As 8 = true) (hR : z_rm R R' 8 k n) (gc : z_J Z mL_rightsFor R' 0 0 Q' 0 As [] h) (kr : ∀ (v : Option Value) (h' : zH), Q' (.inl v) h' → z_J Z mL_lay R (k + R'.cells) (n + R'.slots) Q 196 ls (v.toList ++ rest) h') (kx : ∀ (E : String) (h' : zH), Q' (.inr E) h' → z_JX Z mL_lay R (k + R'.cells) (n + R'.slots) Q 193 ls E h') : z_J Z mL_lay R k n Q 193 ls st h := z_callS (M' := mL_rightsFor) dL_lay_193 rfl cs_L_83 gw571 ha hR (z_chk1 hc) (z_chk2 hc) (z_chk3 hc) gc kr kx
theorem dL_lay_196 : decode cL_lay 196 = .ok (.iastore, 1) := by decide +kernel
theorem iL_lay_196 {f : Nat → Int32} (hh : h r = some (a, .inl (0, N, .inl f))) (hi : i = nI j) (hj : j < N) (hN : N < 2 ^ 31) (g : z_J Z mL_lay R k n Q 197 ls st (z_u h r (a, .inl (0, N, .inl (upd f j x))))) : z_J Z mL_lay R k n Q 196 ls (.int x :: .int i :: .ref a :: st) h := z_iast dL_lay_196 rfl hh hi hj hN g
def bL_lay_197 : zB := [(197, .aload 10, 199, nI 0), (199, .iconst 4, 200, nI 4), (200, .dup2, 201, nI 0)]
theorem bL_lay_197_ok : z_ok cL_lay 197 bL_lay_197 201 = true := by decide +kernel
theorem iL_lay_197 (hr : z_run 16 bL_lay_197 ls st = some (ls', st')) (g : z_J Z mL_lay R k n Q 201 ls' st' h) : z_J Z mL_lay R k n Q 197 ls st h := z_jr bL_lay_197 bL_lay_197_ok hr g
theorem dL_lay_201 : decode cL_lay 201 = .ok (.iaload, 1) := by decide +kernel
theorem iL_lay_201 {f : Nat → Int32} (hh : h r = some (a, .inl (0, N, .inl f))) (hi : i = nI j) (hj : j < N) (hN : N < 2 ^ 31) (g : z_J Z mL_lay R k n Q 202 ls (.int (f j) :: st) h) : z_J Z mL_lay R k n Q 201 ls (.int i :: .ref a :: st) h := z_iald dL_lay_201 rfl hh hi hj hN g
def bL_lay_202 : zB := [(202, .iconst 1, 203, nI 1), (203, .iadd, 204, nI 0)]
theorem bL_lay_202_ok : z_ok cL_lay 202 bL_lay_202 204 = true := by decide +kernel
theorem iL_lay_202 (hr : z_run 16 bL_lay_202 ls st = some (ls', st')) (g : z_J Z mL_lay R k n Q 204 ls' st' h) : z_J Z mL_lay R k n Q 202 ls st h := z_jr bL_lay_202 bL_lay_202_ok hr g
theorem dL_lay_204 : decode cL_lay 204 = .ok (.iastore, 1) := by decide +kernel
theorem iL_lay_204 {f : Nat → Int32} (hh : h r = some (a, .inl (0, N, .inl f))) (hi : i = nI j) (hj : j < N) (hN : N < 2 ^ 31) (g : z_J Z mL_lay R k n Q 205 ls st (z_u h r (a, .inl (0, N, .inl (upd f j x))))) : z_J Z mL_lay R k n Q 204 ls (.int x :: .int i :: .ref a :: st) h := z_iast dL_lay_204 rfl hh hi hj hN g
def bL_lay_205 : zB := [(205, .iinc 12 1, 208, nI 1), (208, .goto (-172), 36, nI 0)]
theorem bL_lay_205_ok : z_ok cL_lay 205 bL_lay_205 36 = true := by decide +kernel
theorem iL_lay_205 (hr : z_run 16 bL_lay_205 ls st = some (ls', st')) (g : z_J Z mL_lay R k n Q 36 ls' st' h) : z_J Z mL_lay R k n Q 205 ls st h := z_jr bL_lay_205 bL_lay_205_ok hr g
def bL_lay_211 : zB := [(211, .iinc 11 1, 214, nI 1), (214, .goto (-206), 8, nI 0)]
theorem bL_lay_211_ok : z_ok cL_lay 211 bL_lay_211 8 = true := by decide +kernel
theorem iL_lay_211 (hr : z_run 16 bL_lay_211 ls st = some (ls', st')) (g : z_J Z mL_lay R k n Q 8 ls' st' h) : z_J Z mL_lay R k n Q 211 ls st h := z_jr bL_lay_211 bL_lay_211_ok hr g
theorem dL_lay_217 : decode cL_lay 217 = .ok (.return_, 1) := by decide +kernel
theorem iL_lay_217 (hk : k ≤ R.cells) (hs : n ≤ R.slots) (hq : Q (.inl none) h) : z_J Z mL_lay R k n Q 217 ls [] h := z_vret dL_lay_217 rfl hk hs hq
/-! L_lacks -/
def bL_lacks_0 : zB := [(0, .iconst 0, 1, nI 0), (1, .istore 7, 3, nI 0), (3, .iconst 0, 4, nI 0), (4, .istore 8, 6, nI 0)]
theorem bL_lacks_0_ok : z_ok cL_lacks 0 bL_lacks_0 6 = true := by decide +kernel
theorem iL_lacks_0 (hr : z_run 12 bL_lacks_0 ls st = some (ls', st')) (g : z_J Z mL_lacks R k n Q 6 ls' st' h) : z_J Z mL_lacks R k n Q 0 ls st h := z_jr bL_lacks_0 bL_lacks_0_ok hr g
def bL_lacks_6 : zB := [(6, .iload 8, 8, nI 0), (8, .iconst 1, 9, nI 1), (9, .iload_n 0, 10, nI 0), (10, .ishl, 11, nI 0)]
theorem bL_lacks_6_ok : z_ok cL_lacks 6 bL_lacks_6 11 = true := by decide +kernel
theorem iL_lacks_6 (hr : z_run 12 bL_lacks_6 ls st = some (ls', st')) (g : z_J Z mL_lacks R k n Q 11 ls' st' h) : z_J Z mL_lacks R k n Q 6 ls st h := z_jr bL_lacks_6 bL_lacks_6_ok hr g
theorem dL_lacks_11 : decode cL_lacks 11 = .ok (.if_icmp .ge 117, 3) := by decide +kernel
theorem iL_lacks_11 (kt : y ≤ x → z_J Z mL_lacks R k n Q 128 ls st h) (kf : ¬ y ≤ x → z_J Z mL_lacks R k n Q 14 ls st h) : z_J Z mL_lacks R k n Q 11 ls (.int y :: .int x :: st) h := z_ic_ge dL_lacks_11 (tgt := 128) (by decide) rfl kt kf
def bL_lacks_14 : zB := [(14, .iload_n 1, 15, nI 0), (15, .istore 9, 17, nI 0), (17, .iload_n 2, 18, nI 0), (18, .istore 10, 20, nI 0), (20, .iconst 0, 21, nI 0), (21, .istore 11, 23, nI 0)]
theorem bL_lacks_14_ok : z_ok cL_lacks 14 bL_lacks_14 23 = true := by decide +kernel
theorem iL_lacks_14 (hr : z_run 12 bL_lacks_14 ls st = some (ls', st')) (g : z_J Z mL_lacks R k n Q 23 ls' st' h) : z_J Z mL_lacks R k n Q 14 ls st h := z_jr bL_lacks_14 bL_lacks_14_ok hr g
def bL_lacks_23 : zB := [(23, .iload 11, 25, nI 0), (25, .iload_n 0, 26, nI 0)]
theorem bL_lacks_23_ok : z_ok cL_lacks 23 bL_lacks_23 26 = true := by decide +kernel
theorem iL_lacks_23 (hr : z_run 12 bL_lacks_23 ls st = some (ls', st')) (g : z_J Z mL_lacks R k n Q 26 ls' st' h) : z_J Z mL_lacks R k n Q 23 ls st h := z_jr bL_lacks_23 bL_lacks_23_ok hr g
theorem dL_lacks_26 : decode cL_lacks 26 = .ok (.if_icmp .ge 42, 3) := by decide +kernel
theorem iL_lacks_26 (kt : y ≤ x → z_J Z mL_lacks R k n Q 68 ls st h) (kf : ¬ y ≤ x → z_J Z mL_lacks R k n Q 29 ls st h) : z_J Z mL_lacks R k n Q 26 ls (.int y :: .int x :: st) h := z_ic_ge dL_lacks_26 (tgt := 68) (by decide) rfl kt kf
def bL_lacks_29 : zB := [(29, .iload 8, 31, nI 0), (31, .iload 11, 33, nI 0), (33, .ishr, 34, nI 0), (34, .iconst 1, 35, nI 1), (35, .iand, 36, nI 0)]
theorem bL_lacks_29_ok : z_ok cL_lacks 29 bL_lacks_29 36 = true := by decide +kernel
theorem iL_lacks_29 (hr : z_run 12 bL_lacks_29 ls st = some (ls', st')) (g : z_J Z mL_lacks R k n Q 36 ls' st' h) : z_J Z mL_lacks R k n Q 29 ls st h := z_jr bL_lacks_29 bL_lacks_29_ok hr g
theorem dL_lacks_36 : decode cL_lacks 36 = .ok (.ifCond .ne 6, 3) := by decide +kernel
theorem iL_lacks_36 (kt : ¬ x = 0 → z_J Z mL_lacks R k n Q 42 ls st h) (kf : x = 0 → z_J Z mL_lacks R k n Q 39 ls st h) : z_J Z mL_lacks R k n Q 36 ls (.int x :: st) h := z_if_ne dL_lacks_36 (tgt := 42) (by decide) rfl kt kf
def bL_lacks_39 : zB := [(39, .goto 23, 62, nI 0)]
theorem bL_lacks_39_ok : z_ok cL_lacks 39 bL_lacks_39 62 = true := by decide +kernel
theorem iL_lacks_39 (hr : z_run 12 bL_lacks_39 ls st = some (ls', st')) (g : z_J Z mL_lacks R k n Q 62 ls' st' h) : z_J Z mL_lacks R k n Q 39 ls st h := z_jr bL_lacks_39 bL_lacks_39_ok hr g
def bL_lacks_42 : zB := [(42, .iload 9, 44, nI 0), (44, .aload 4, 46, nI 0), (46, .iload 11, 48, nI 0)]
theorem bL_lacks_42_ok : z_ok cL_lacks 42 bL_lacks_42 48 = true := by decide +kernel
theorem iL_lacks_42 (hr : z_run 12 bL_lacks_42 ls st = some (ls', st')) (g : z_J Z mL_lacks R k n Q 48 ls' st' h) : z_J Z mL_lacks R k n Q 42 ls st h := z_jr bL_lacks_42 bL_lacks_42_ok hr g
theorem dL_lacks_48 : decode cL_lacks 48 = .ok (.iaload, 1) := by decide +kernel
theorem iL_lacks_48 {f : Nat → Int32} (hh : h r = some (a, .inl (0, N, .inl f))) (hi : i = nI j) (hj : j < N) (hN : N < 2 ^ 31) (g : z_J Z mL_lacks R k n Q 49 ls (.int (f j) :: st) h) : z_J Z mL_lacks R k n Q 48 ls (.int i :: .ref a :: st) h := z_iald dL_lacks_48 rfl hh hi hj hN g
def bL_lacks_49 : zB := [(49, .iadd, 50, nI 0), (50, .istore 9, 52, nI 0), (52, .iload 10, 54, nI 0), (54, .aload 5, 56, nI 0), (56, .iload 11, 58, nI 0)]
theorem bL_lacks_49_ok : z_ok cL_lacks 49 bL_lacks_49 58 = true := by decide +kernel
theorem iL_lacks_49 (hr : z_run 12 bL_lacks_49 ls st = some (ls', st')) (g : z_J Z mL_lacks R k n Q 58 ls' st' h) : z_J Z mL_lacks R k n Q 49 ls st h := z_jr bL_lacks_49 bL_lacks_49_ok hr g
theorem dL_lacks_58 : decode cL_lacks 58 = .ok (.iaload, 1) := by decide +kernel
theorem iL_lacks_58 {f : Nat → Int32} (hh : h r = some (a, .inl (0, N, .inl f))) (hi : i = nI j) (hj : j < N) (hN : N < 2 ^ 31) (g : z_J Z mL_lacks R k n Q 59 ls (.int (f j) :: st) h) : z_J Z mL_lacks R k n Q 58 ls (.int i :: .ref a :: st) h := z_iald dL_lacks_58 rfl hh hi hj hN g
def bL_lacks_59 : zB := [(59, .ior, 60, nI 0), (60, .istore 10, 62, nI 0)]
theorem bL_lacks_59_ok : z_ok cL_lacks 59 bL_lacks_59 62 = true := by decide +kernel
theorem iL_lacks_59 (hr : z_run 12 bL_lacks_59 ls st = some (ls', st')) (g : z_J Z mL_lacks R k n Q 62 ls' st' h) : z_J Z mL_lacks R k n Q 59 ls st h := z_jr bL_lacks_59 bL_lacks_59_ok hr g
def bL_lacks_62 : zB := [(62, .iinc 11 1, 65, nI 1), (65, .goto (-42), 23, nI 0)]
theorem bL_lacks_62_ok : z_ok cL_lacks 62 bL_lacks_62 23 = true := by decide +kernel
theorem iL_lacks_62 (hr : z_run 12 bL_lacks_62 ls st = some (ls', st')) (g : z_J Z mL_lacks R k n Q 23 ls' st' h) : z_J Z mL_lacks R k n Q 62 ls st h := z_jr bL_lacks_62 bL_lacks_62_ok hr g
def bL_lacks_68 : zB := [(68, .iconst 0, 69, nI 0), (69, .istore 11, 71, nI 0)]
theorem bL_lacks_68_ok : z_ok cL_lacks 68 bL_lacks_68 71 = true := by decide +kernel
theorem iL_lacks_68 (hr : z_run 12 bL_lacks_68 ls st = some (ls', st')) (g : z_J Z mL_lacks R k n Q 71 ls' st' h) : z_J Z mL_lacks R k n Q 68 ls st h := z_jr bL_lacks_68 bL_lacks_68_ok hr g
def bL_lacks_71 : zB := [(71, .iload 11, 73, nI 0), (73, .aload 6, 75, nI 0), (75, .iconst 0, 76, nI 0)]
theorem bL_lacks_71_ok : z_ok cL_lacks 71 bL_lacks_71 76 = true := by decide +kernel
theorem iL_lacks_71 (hr : z_run 12 bL_lacks_71 ls st = some (ls', st')) (g : z_J Z mL_lacks R k n Q 76 ls' st' h) : z_J Z mL_lacks R k n Q 71 ls st h := z_jr bL_lacks_71 bL_lacks_71_ok hr g
theorem dL_lacks_76 : decode cL_lacks 76 = .ok (.iaload, 1) := by decide +kernel
theorem iL_lacks_76 {f : Nat → Int32} (hh : h r = some (a, .inl (0, N, .inl f))) (hi : i = nI j) (hj : j < N) (hN : N < 2 ^ 31) (g : z_J Z mL_lacks R k n Q 77 ls (.int (f j) :: st) h) : z_J Z mL_lacks R k n Q 76 ls (.int i :: .ref a :: st) h := z_iald dL_lacks_76 rfl hh hi hj hN g
theorem dL_lacks_77 : decode cL_lacks 77 = .ok (.if_icmp .ge 29, 3) := by decide +kernel
theorem iL_lacks_77 (kt : y ≤ x → z_J Z mL_lacks R k n Q 106 ls st h) (kf : ¬ y ≤ x → z_J Z mL_lacks R k n Q 80 ls st h) : z_J Z mL_lacks R k n Q 77 ls (.int y :: .int x :: st) h := z_ic_ge dL_lacks_77 (tgt := 106) (by decide) rfl kt kf
def bL_lacks_80 : zB := [(80, .iload 9, 82, nI 0), (82, .iload 10, 84, nI 0), (84, .iload 11, 86, nI 0), (86, .ishr, 87, nI 0), (87, .iconst 1, 88, nI 1), (88, .iand, 89, nI 0), (89, .aload_n 3, 90, nI 0), (90, .iload 11, 92, nI 0)]
theorem bL_lacks_80_ok : z_ok cL_lacks 80 bL_lacks_80 92 = true := by decide +kernel
theorem iL_lacks_80 (hr : z_run 12 bL_lacks_80 ls st = some (ls', st')) (g : z_J Z mL_lacks R k n Q 92 ls' st' h) : z_J Z mL_lacks R k n Q 80 ls st h := z_jr bL_lacks_80 bL_lacks_80_ok hr g
theorem dL_lacks_92 : decode cL_lacks 92 = .ok (.iaload, 1) := by decide +kernel
theorem iL_lacks_92 {f : Nat → Int32} (hh : h r = some (a, .inl (0, N, .inl f))) (hi : i = nI j) (hj : j < N) (hN : N < 2 ^ 31) (g : z_J Z mL_lacks R k n Q 93 ls (.int (f j) :: st) h) : z_J Z mL_lacks R k n Q 92 ls (.int i :: .ref a :: st) h := z_iald dL_lacks_92 rfl hh hi hj hN g
def bL_lacks_93 : zB := [(93, .bipush 9, 95, nI 9), (95, .ishr, 96, nI 0), (96, .imul, 97, nI 0), (97, .isub, 98, nI 0), (98, .istore 9, 100, nI 0), (100, .iinc 11 1, 103, nI 1), (103, .goto (-32), 71, nI 0)]
theorem bL_lacks_93_ok : z_ok cL_lacks 93 bL_lacks_93 71 = true := by decide +kernel
theorem iL_lacks_93 (hr : z_run 12 bL_lacks_93 ls st = some (ls', st')) (g : z_J Z mL_lacks R k n Q 71 ls' st' h) : z_J Z mL_lacks R k n Q 93 ls st h := z_jr bL_lacks_93 bL_lacks_93_ok hr g
def bL_lacks_106 : zB := [(106, .iload 9, 108, nI 0), (108, .iload 7, 110, nI 0)]
theorem bL_lacks_106_ok : z_ok cL_lacks 106 bL_lacks_106 110 = true := by decide +kernel
theorem iL_lacks_106 (hr : z_run 12 bL_lacks_106 ls st = some (ls', st')) (g : z_J Z mL_lacks R k n Q 110 ls' st' h) : z_J Z mL_lacks R k n Q 106 ls st h := z_jr bL_lacks_106 bL_lacks_106_ok hr g
theorem dL_lacks_110 : decode cL_lacks 110 = .ok (.if_icmp .le 8, 3) := by decide +kernel
theorem iL_lacks_110 (kt : x ≤ y → z_J Z mL_lacks R k n Q 118 ls st h) (kf : ¬ x ≤ y → z_J Z mL_lacks R k n Q 113 ls st h) : z_J Z mL_lacks R k n Q 110 ls (.int y :: .int x :: st) h := z_ic_le dL_lacks_110 (tgt := 118) (by decide) rfl kt kf
def bL_lacks_113 : zB := [(113, .iload 9, 115, nI 0), (115, .goto 5, 120, nI 0)]
theorem bL_lacks_113_ok : z_ok cL_lacks 113 bL_lacks_113 120 = true := by decide +kernel
theorem iL_lacks_113 (hr : z_run 12 bL_lacks_113 ls st = some (ls', st')) (g : z_J Z mL_lacks R k n Q 120 ls' st' h) : z_J Z mL_lacks R k n Q 113 ls st h := z_jr bL_lacks_113 bL_lacks_113_ok hr g
def bL_lacks_118 : zB := [(118, .iload 7, 120, nI 0)]
theorem bL_lacks_118_ok : z_ok cL_lacks 118 bL_lacks_118 120 = true := by decide +kernel
theorem iL_lacks_118 (hr : z_run 12 bL_lacks_118 ls st = some (ls', st')) (g : z_J Z mL_lacks R k n Q 120 ls' st' h) : z_J Z mL_lacks R k n Q 118 ls st h := z_jr bL_lacks_118 bL_lacks_118_ok hr g
def bL_lacks_120 : zB := [(120, .istore 7, 122, nI 0), (122, .iinc 8 1, 125, nI 1), (125, .goto (-119), 6, nI 0)]
theorem bL_lacks_120_ok : z_ok cL_lacks 120 bL_lacks_120 6 = true := by decide +kernel
theorem iL_lacks_120 (hr : z_run 12 bL_lacks_120 ls st = some (ls', st')) (g : z_J Z mL_lacks R k n Q 6 ls' st' h) : z_J Z mL_lacks R k n Q 120 ls st h := z_jr bL_lacks_120 bL_lacks_120_ok hr g
def bL_lacks_128 : zB := [(128, .iload 7, 130, nI 0)]
theorem bL_lacks_128_ok : z_ok cL_lacks 128 bL_lacks_128 130 = true := by decide +kernel
theorem iL_lacks_128 (hr : z_run 12 bL_lacks_128 ls st = some (ls', st')) (g : z_J Z mL_lacks R k n Q 130 ls' st' h) : z_J Z mL_lacks R k n Q 128 ls st h := z_jr bL_lacks_128 bL_lacks_128_ok hr g
theorem dL_lacks_130 : decode cL_lacks 130 = .ok (.ireturn, 1) := by decide +kernel
theorem iL_lacks_130 (hk : k ≤ R.cells) (hs : n ≤ R.slots) (hq : Q (.inl (some (.int x))) h) : z_J Z mL_lacks R k n Q 130 ls [.int x] h := z_iret (ty := .int) dL_lacks_130 rfl rfl hk hs hq
/-! L_rights -/
def bL_rights_0 : zB := [(0, .iload_n 2, 1, nI 0), (1, .aload 6, 3, nI 0), (3, .iconst 0, 4, nI 0)]
theorem bL_rights_0_ok : z_ok cL_rights 0 bL_rights_0 4 = true := by decide +kernel
theorem iL_rights_0 (hr : z_run 13 bL_rights_0 ls st = some (ls', st')) (g : z_J Z mL_rights R k n Q 4 ls' st' h) : z_J Z mL_rights R k n Q 0 ls st h := z_jr bL_rights_0 bL_rights_0_ok hr g
theorem dL_rights_4 : decode cL_rights 4 = .ok (.iaload, 1) := by decide +kernel
theorem iL_rights_4 {f : Nat → Int32} (hh : h r = some (a, .inl (0, N, .inl f))) (hi : i = nI j) (hj : j < N) (hN : N < 2 ^ 31) (g : z_J Z mL_rights R k n Q 5 ls (.int (f j) :: st) h) : z_J Z mL_rights R k n Q 4 ls (.int i :: .ref a :: st) h := z_iald dL_rights_4 rfl hh hi hj hN g
def bL_rights_5 : zB := [(5, .iconst 1, 6, nI 1), (6, .iadd, 7, nI 0)]
theorem bL_rights_5_ok : z_ok cL_rights 5 bL_rights_5 7 = true := by decide +kernel
theorem iL_rights_5 (hr : z_run 13 bL_rights_5 ls st = some (ls', st')) (g : z_J Z mL_rights R k n Q 7 ls' st' h) : z_J Z mL_rights R k n Q 5 ls st h := z_jr bL_rights_5 bL_rights_5_ok hr g
theorem dL_rights_7 : decode cL_rights 7 = .ok (.invokestatic 87, 3) := by decide +kernel
theorem iL_rights_7 (ha : z_args 2 st [] = some (As, rest)) (hc : z_chk rest As 2 = true) (hR : z_rm R R' 2 k n) (gc : z_J Z mL_low R' 0 0 Q' 0 As [] h) (kr : ∀ (v : Option Value) (h' : zH), Q' (.inl v) h' → z_J Z mL_rights R (k + R'.cells) (n + R'.slots) Q 10 ls (v.toList ++ rest) h') (kx : ∀ (E : String) (h' : zH), Q' (.inr E) h' → z_JX Z mL_rights R (k + R'.cells) (n + R'.slots) Q 7 ls E h') : z_J Z mL_rights R k n Q 7 ls st h := z_callS (M' := mL_low) dL_rights_7 rfl cs_L_87 gw168 ha hR (z_chk1 hc) (z_chk2 hc) (z_chk3 hc) gc kr kx
def bL_rights_10 : zB := [(10, .istore 7, 12, nI 0), (12, .iconst 1, 13, nI 1), (13, .iload_n 3, 14, nI 0), (14, .bipush 9, 16, nI 9)]
theorem bL_rights_10_ok : z_ok cL_rights 10 bL_rights_10 16 = true := by decide +kernel
theorem iL_rights_10 (hr : z_run 13 bL_rights_10 ls st = some (ls', st')) (g : z_J Z mL_rights R k n Q 16 ls' st' h) : z_J Z mL_rights R k n Q 10 ls st h := z_jr bL_rights_10 bL_rights_10_ok hr g
theorem dL_rights_16 : decode cL_rights 16 = .ok (.invokestatic 87, 3) := by decide +kernel
theorem iL_rights_16 (ha : z_args 2 st [] = some (As, rest)) (hc : z_chk rest As 2 = true) (hR : z_rm R R' 2 k n) (gc : z_J Z mL_low R' 0 0 Q' 0 As [] h) (kr : ∀ (v : Option Value) (h' : zH), Q' (.inl v) h' → z_J Z mL_rights R (k + R'.cells) (n + R'.slots) Q 19 ls (v.toList ++ rest) h') (kx : ∀ (E : String) (h' : zH), Q' (.inr E) h' → z_JX Z mL_rights R (k + R'.cells) (n + R'.slots) Q 16 ls E h') : z_J Z mL_rights R k n Q 16 ls st h := z_callS (M' := mL_low) dL_rights_16 rfl cs_L_87 gw168 ha hR (z_chk1 hc) (z_chk2 hc) (z_chk3 hc) gc kr kx
def bL_rights_19 : zB := [(19, .iadd, 20, nI 0), (20, .istore 8, 22, nI 0), (22, .iload_n 1, 23, nI 0), (23, .iconst 3, 24, nI 3)]
theorem bL_rights_19_ok : z_ok cL_rights 19 bL_rights_19 24 = true := by decide +kernel
theorem iL_rights_19 (hr : z_run 13 bL_rights_19 ls st = some (ls', st')) (g : z_J Z mL_rights R k n Q 24 ls' st' h) : z_J Z mL_rights R k n Q 19 ls st h := z_jr bL_rights_19 bL_rights_19_ok hr g
theorem dL_rights_24 : decode cL_rights 24 = .ok (.if_icmp .ge 380, 3) := by decide +kernel
theorem iL_rights_24 (kt : y ≤ x → z_J Z mL_rights R k n Q 404 ls st h) (kf : ¬ y ≤ x → z_J Z mL_rights R k n Q 27 ls st h) : z_J Z mL_rights R k n Q 24 ls (.int y :: .int x :: st) h := z_ic_ge dL_rights_24 (tgt := 404) (by decide) rfl kt kf
def bL_rights_27 : zB := [(27, .iconst 1, 28, nI 1), (28, .iload_n 2, 29, nI 0), (29, .bipush 31, 31, nI 31)]
theorem bL_rights_27_ok : z_ok cL_rights 27 bL_rights_27 31 = true := by decide +kernel
theorem iL_rights_27 (hr : z_run 13 bL_rights_27 ls st = some (ls', st')) (g : z_J Z mL_rights R k n Q 31 ls' st' h) : z_J Z mL_rights R k n Q 27 ls st h := z_jr bL_rights_27 bL_rights_27_ok hr g
theorem dL_rights_31 : decode cL_rights 31 = .ok (.invokestatic 87, 3) := by decide +kernel
theorem iL_rights_31 (ha : z_args 2 st [] = some (As, rest)) (hc : z_chk rest As 2 = true) (hR : z_rm R R' 2 k n) (gc : z_J Z mL_low R' 0 0 Q' 0 As [] h) (kr : ∀ (v : Option Value) (h' : zH), Q' (.inl v) h' → z_J Z mL_rights R (k + R'.cells) (n + R'.slots) Q 34 ls (v.toList ++ rest) h') (kx : ∀ (E : String) (h' : zH), Q' (.inr E) h' → z_JX Z mL_rights R (k + R'.cells) (n + R'.slots) Q 31 ls E h') : z_J Z mL_rights R k n Q 31 ls st h := z_callS (M' := mL_low) dL_rights_31 rfl cs_L_87 gw168 ha hR (z_chk1 hc) (z_chk2 hc) (z_chk3 hc) gc kr kx
def bL_rights_34 : zB := [(34, .iadd, 35, nI 0), (35, .istore 9, 37, nI 0), (37, .iconst 1, 38, nI 1), (38, .iload_n 2, 39, nI 0), (39, .iconst 5, 40, nI 5), (40, .ishr, 41, nI 0), (41, .iload_n 2, 42, nI 0), (42, .sipush 12288, 45, nI 12288), (45, .iand, 46, nI 0)]
theorem bL_rights_34_ok : z_ok cL_rights 34 bL_rights_34 46 = true := by decide +kernel
theorem iL_rights_34 (hr : z_run 13 bL_rights_34 ls st = some (ls', st')) (g : z_J Z mL_rights R k n Q 46 ls' st' h) : z_J Z mL_rights R k n Q 34 ls st h := z_jr bL_rights_34 bL_rights_34_ok hr g
theorem dL_rights_46 : decode cL_rights 46 = .ok (.ifCond .ne 8, 3) := by decide +kernel
theorem iL_rights_46 (kt : ¬ x = 0 → z_J Z mL_rights R k n Q 54 ls st h) (kf : x = 0 → z_J Z mL_rights R k n Q 49 ls st h) : z_J Z mL_rights R k n Q 46 ls (.int x :: st) h := z_if_ne dL_rights_46 (tgt := 54) (by decide) rfl kt kf
def bL_rights_49 : zB := [(49, .bipush 100, 51, nI 100), (51, .goto 5, 56, nI 0)]
theorem bL_rights_49_ok : z_ok cL_rights 49 bL_rights_49 56 = true := by decide +kernel
theorem iL_rights_49 (hr : z_run 13 bL_rights_49 ls st = some (ls', st')) (g : z_J Z mL_rights R k n Q 56 ls' st' h) : z_J Z mL_rights R k n Q 49 ls st h := z_jr bL_rights_49 bL_rights_49_ok hr g
def bL_rights_54 : zB := [(54, .bipush 12, 56, nI 12)]
theorem bL_rights_54_ok : z_ok cL_rights 54 bL_rights_54 56 = true := by decide +kernel
theorem iL_rights_54 (hr : z_run 13 bL_rights_54 ls st = some (ls', st')) (g : z_J Z mL_rights R k n Q 56 ls' st' h) : z_J Z mL_rights R k n Q 54 ls st h := z_jr bL_rights_54 bL_rights_54_ok hr g
theorem dL_rights_56 : decode cL_rights 56 = .ok (.invokestatic 87, 3) := by decide +kernel
theorem iL_rights_56 (ha : z_args 2 st [] = some (As, rest)) (hc : z_chk rest As 2 = true) (hR : z_rm R R' 2 k n) (gc : z_J Z mL_low R' 0 0 Q' 0 As [] h) (kr : ∀ (v : Option Value) (h' : zH), Q' (.inl v) h' → z_J Z mL_rights R (k + R'.cells) (n + R'.slots) Q 59 ls (v.toList ++ rest) h') (kx : ∀ (E : String) (h' : zH), Q' (.inr E) h' → z_JX Z mL_rights R (k + R'.cells) (n + R'.slots) Q 56 ls E h') : z_J Z mL_rights R k n Q 56 ls st h := z_callS (M' := mL_low) dL_rights_56 rfl cs_L_87 gw168 ha hR (z_chk1 hc) (z_chk2 hc) (z_chk3 hc) gc kr kx
def bL_rights_59 : zB := [(59, .iadd, 60, nI 0), (60, .istore 10, 62, nI 0), (62, .iload_n 3, 63, nI 0), (63, .bipush 96, 65, nI 96), (65, .iand, 66, nI 0)]
theorem bL_rights_59_ok : z_ok cL_rights 59 bL_rights_59 66 = true := by decide +kernel
theorem iL_rights_59 (hr : z_run 13 bL_rights_59 ls st = some (ls', st')) (g : z_J Z mL_rights R k n Q 66 ls' st' h) : z_J Z mL_rights R k n Q 59 ls st h := z_jr bL_rights_59 bL_rights_59_ok hr g
theorem dL_rights_66 : decode cL_rights 66 = .ok (.ifCond .ne 16, 3) := by decide +kernel
theorem iL_rights_66 (kt : ¬ x = 0 → z_J Z mL_rights R k n Q 82 ls st h) (kf : x = 0 → z_J Z mL_rights R k n Q 69 ls st h) : z_J Z mL_rights R k n Q 66 ls (.int x :: st) h := z_if_ne dL_rights_66 (tgt := 82) (by decide) rfl kt kf
def bL_rights_69 : zB := [(69, .iload_n 3, 70, nI 0), (70, .bipush 7, 72, nI 7), (72, .ishr, 73, nI 0), (73, .sipush 721, 76, nI 721)]
theorem bL_rights_69_ok : z_ok cL_rights 69 bL_rights_69 76 = true := by decide +kernel
theorem iL_rights_69 (hr : z_run 13 bL_rights_69 ls st = some (ls', st')) (g : z_J Z mL_rights R k n Q 76 ls' st' h) : z_J Z mL_rights R k n Q 69 ls st h := z_jr bL_rights_69 bL_rights_69_ok hr g
theorem dL_rights_76 : decode cL_rights 76 = .ok (.invokestatic 87, 3) := by decide +kernel
theorem iL_rights_76 (ha : z_args 2 st [] = some (As, rest)) (hc : z_chk rest As 2 = true) (hR : z_rm R R' 2 k n) (gc : z_J Z mL_low R' 0 0 Q' 0 As [] h) (kr : ∀ (v : Option Value) (h' : zH), Q' (.inl v) h' → z_J Z mL_rights R (k + R'.cells) (n + R'.slots) Q 79 ls (v.toList ++ rest) h') (kx : ∀ (E : String) (h' : zH), Q' (.inr E) h' → z_JX Z mL_rights R (k + R'.cells) (n + R'.slots) Q 76 ls E h') : z_J Z mL_rights R k n Q 76 ls st h := z_callS (M' := mL_low) dL_rights_76 rfl cs_L_87 gw168 ha hR (z_chk1 hc) (z_chk2 hc) (z_chk3 hc) gc kr kx
def bL_rights_79 : zB := [(79, .goto 12, 91, nI 0)]
theorem bL_rights_79_ok : z_ok cL_rights 79 bL_rights_79 91 = true := by decide +kernel
theorem iL_rights_79 (hr : z_run 13 bL_rights_79 ls st = some (ls', st')) (g : z_J Z mL_rights R k n Q 91 ls' st' h) : z_J Z mL_rights R k n Q 79 ls st h := z_jr bL_rights_79 bL_rights_79_ok hr g
def bL_rights_82 : zB := [(82, .iload_n 3, 83, nI 0), (83, .bipush 7, 85, nI 7), (85, .ishr, 86, nI 0), (86, .bipush 60, 88, nI 60)]
theorem bL_rights_82_ok : z_ok cL_rights 82 bL_rights_82 88 = true := by decide +kernel
theorem iL_rights_82 (hr : z_run 13 bL_rights_82 ls st = some (ls', st')) (g : z_J Z mL_rights R k n Q 88 ls' st' h) : z_J Z mL_rights R k n Q 82 ls st h := z_jr bL_rights_82 bL_rights_82_ok hr g
theorem dL_rights_88 : decode cL_rights 88 = .ok (.invokestatic 87, 3) := by decide +kernel
theorem iL_rights_88 (ha : z_args 2 st [] = some (As, rest)) (hc : z_chk rest As 2 = true) (hR : z_rm R R' 2 k n) (gc : z_J Z mL_low R' 0 0 Q' 0 As [] h) (kr : ∀ (v : Option Value) (h' : zH), Q' (.inl v) h' → z_J Z mL_rights R (k + R'.cells) (n + R'.slots) Q 91 ls (v.toList ++ rest) h') (kx : ∀ (E : String) (h' : zH), Q' (.inr E) h' → z_JX Z mL_rights R (k + R'.cells) (n + R'.slots) Q 88 ls E h') : z_J Z mL_rights R k n Q 88 ls st h := z_callS (M' := mL_low) dL_rights_88 rfl cs_L_87 gw168 ha hR (z_chk1 hc) (z_chk2 hc) (z_chk3 hc) gc kr kx
def bL_rights_91 : zB := [(91, .istore 11, 93, nI 0), (93, .iload 11, 95, nI 0), (95, .iload_n 2, 96, nI 0), (96, .bipush 14, 98, nI 14), (98, .ishr, 99, nI 0), (99, .iload_n 3, 100, nI 0), (100, .bipush 96, 102, nI 96), (102, .iand, 103, nI 0)]
theorem bL_rights_91_ok : z_ok cL_rights 91 bL_rights_91 103 = true := by decide +kernel
theorem iL_rights_91 (hr : z_run 13 bL_rights_91 ls st = some (ls', st')) (g : z_J Z mL_rights R k n Q 103 ls' st' h) : z_J Z mL_rights R k n Q 91 ls st h := z_jr bL_rights_91 bL_rights_91_ok hr g
theorem dL_rights_103 : decode cL_rights 103 = .ok (.ifCond .ne 12, 3) := by decide +kernel
theorem iL_rights_103 (kt : ¬ x = 0 → z_J Z mL_rights R k n Q 115 ls st h) (kf : x = 0 → z_J Z mL_rights R k n Q 106 ls st h) : z_J Z mL_rights R k n Q 103 ls (.int x :: st) h := z_if_ne dL_rights_103 (tgt := 115) (by decide) rfl kt kf
def bL_rights_106 : zB := [(106, .sipush 721, 109, nI 721), (109, .iload 11, 111, nI 0), (111, .isub, 112, nI 0), (112, .goto 5, 117, nI 0)]
theorem bL_rights_106_ok : z_ok cL_rights 106 bL_rights_106 117 = true := by decide +kernel
theorem iL_rights_106 (hr : z_run 13 bL_rights_106 ls st = some (ls', st')) (g : z_J Z mL_rights R k n Q 117 ls' st' h) : z_J Z mL_rights R k n Q 106 ls st h := z_jr bL_rights_106 bL_rights_106_ok hr g
def bL_rights_115 : zB := [(115, .bipush 90, 117, nI 90)]
theorem bL_rights_115_ok : z_ok cL_rights 115 bL_rights_115 117 = true := by decide +kernel
theorem iL_rights_115 (hr : z_run 13 bL_rights_115 ls st = some (ls', st')) (g : z_J Z mL_rights R k n Q 117 ls' st' h) : z_J Z mL_rights R k n Q 115 ls st h := z_jr bL_rights_115 bL_rights_115_ok hr g
theorem dL_rights_117 : decode cL_rights 117 = .ok (.invokestatic 87, 3) := by decide +kernel
theorem iL_rights_117 (ha : z_args 2 st [] = some (As, rest)) (hc : z_chk rest As 2 = true) (hR : z_rm R R' 2 k n) (gc : z_J Z mL_low R' 0 0 Q' 0 As [] h) (kr : ∀ (v : Option Value) (h' : zH), Q' (.inl v) h' → z_J Z mL_rights R (k + R'.cells) (n + R'.slots) Q 120 ls (v.toList ++ rest) h') (kx : ∀ (E : String) (h' : zH), Q' (.inr E) h' → z_JX Z mL_rights R (k + R'.cells) (n + R'.slots) Q 117 ls E h') : z_J Z mL_rights R k n Q 117 ls st h := z_callS (M' := mL_low) dL_rights_117 rfl cs_L_87 gw168 ha hR (z_chk1 hc) (z_chk2 hc) (z_chk3 hc) gc kr kx
def bL_rights_120 : zB := [(120, .iadd, 121, nI 0), (121, .istore 12, 123, nI 0), (123, .aload_n 0, 124, nI 0), (124, .iconst 0, 125, nI 0), (125, .iload 8, 127, nI 0), (127, .iload 10, 129, nI 0), (129, .iload 11, 131, nI 0), (131, .iload 12, 133, nI 0)]
theorem bL_rights_120_ok : z_ok cL_rights 120 bL_rights_120 133 = true := by decide +kernel
theorem iL_rights_120 (hr : z_run 13 bL_rights_120 ls st = some (ls', st')) (g : z_J Z mL_rights R k n Q 133 ls' st' h) : z_J Z mL_rights R k n Q 120 ls st h := z_jr bL_rights_120 bL_rights_120_ok hr g
theorem dL_rights_133 : decode cL_rights 133 = .ok (.invokestatic 90, 3) := by decide +kernel
theorem iL_rights_133 (ha : z_args 6 st [] = some (As, rest)) (hc : z_chk rest As 8 = true) (hR : z_rm R R' 8 k n) (gc : z_J Z mL_addRight R' 0 0 Q' 0 As [] h) (kr : ∀ (v : Option Value) (h' : zH), Q' (.inl v) h' → z_J Z mL_rights R (k + R'.cells) (n + R'.slots) Q 136 ls (v.toList ++ rest) h') (kx : ∀ (E : String) (h' : zH), Q' (.inr E) h' → z_JX Z mL_rights R (k + R'.cells) (n + R'.slots) Q 133 ls E h') : z_J Z mL_rights R k n Q 133 ls st h := z_callS (M' := mL_addRight) dL_rights_133 rfl cs_L_90 gw174 ha hR (z_chk1 hc) (z_chk2 hc) (z_chk3 hc) gc kr kx
def bL_rights_136 : zB := [(136, .bipush (-72), 138, -72)]
theorem bL_rights_136_ok : z_ok cL_rights 136 bL_rights_136 138 = true := by decide +kernel
theorem iL_rights_136 (hr : z_run 13 bL_rights_136 ls st = some (ls', st')) (g : z_J Z mL_rights R k n Q 138 ls' st' h) : z_J Z mL_rights R k n Q 136 ls st h := z_jr bL_rights_136 bL_rights_136_ok hr g
theorem dL_rights_138 : decode cL_rights 138 = .ok (.if_icmp .ne 155, 3) := by decide +kernel
theorem iL_rights_138 (kt : ¬ x = y → z_J Z mL_rights R k n Q 293 ls st h) (kf : x = y → z_J Z mL_rights R k n Q 141 ls st h) : z_J Z mL_rights R k n Q 138 ls (.int y :: .int x :: st) h := z_ic_ne dL_rights_138 (tgt := 293) (by decide) rfl kt kf
def bL_rights_141 : zB := [(141, .aload_n 0, 142, nI 0), (142, .bipush 32, 144, nI 32), (144, .iload 8, 146, nI 0), (146, .iload 10, 148, nI 0), (148, .iload 11, 150, nI 0), (150, .iload 12, 152, nI 0)]
theorem bL_rights_141_ok : z_ok cL_rights 141 bL_rights_141 152 = true := by decide +kernel
theorem iL_rights_141 (hr : z_run 13 bL_rights_141 ls st = some (ls', st')) (g : z_J Z mL_rights R k n Q 152 ls' st' h) : z_J Z mL_rights R k n Q 141 ls st h := z_jr bL_rights_141 bL_rights_141_ok hr g
theorem dL_rights_152 : decode cL_rights 152 = .ok (.invokestatic 90, 3) := by decide +kernel
theorem iL_rights_152 (ha : z_args 6 st [] = some (As, rest)) (hc : z_chk rest As 8 = true) (hR : z_rm R R' 8 k n) (gc : z_J Z mL_addRight R' 0 0 Q' 0 As [] h) (kr : ∀ (v : Option Value) (h' : zH), Q' (.inl v) h' → z_J Z mL_rights R (k + R'.cells) (n + R'.slots) Q 155 ls (v.toList ++ rest) h') (kx : ∀ (E : String) (h' : zH), Q' (.inr E) h' → z_JX Z mL_rights R (k + R'.cells) (n + R'.slots) Q 152 ls E h') : z_J Z mL_rights R k n Q 152 ls st h := z_callS (M' := mL_addRight) dL_rights_152 rfl cs_L_90 gw174 ha hR (z_chk1 hc) (z_chk2 hc) (z_chk3 hc) gc kr kx
def bL_rights_155 : zB := [(155, .bipush (-72), 157, -72)]
theorem bL_rights_155_ok : z_ok cL_rights 155 bL_rights_155 157 = true := by decide +kernel
theorem iL_rights_155 (hr : z_run 13 bL_rights_155 ls st = some (ls', st')) (g : z_J Z mL_rights R k n Q 157 ls' st' h) : z_J Z mL_rights R k n Q 155 ls st h := z_jr bL_rights_155 bL_rights_155_ok hr g
theorem dL_rights_157 : decode cL_rights 157 = .ok (.if_icmp .ne 136, 3) := by decide +kernel
theorem iL_rights_157 (kt : ¬ x = y → z_J Z mL_rights R k n Q 293 ls st h) (kf : x = y → z_J Z mL_rights R k n Q 160 ls st h) : z_J Z mL_rights R k n Q 157 ls (.int y :: .int x :: st) h := z_ic_ne dL_rights_157 (tgt := 293) (by decide) rfl kt kf
def bL_rights_160 : zB := [(160, .aload_n 0, 161, nI 0), (161, .iload 9, 163, nI 0), (163, .iconst 0, 164, nI 0), (164, .iload 10, 166, nI 0), (166, .iload 11, 168, nI 0), (168, .iload 12, 170, nI 0)]
theorem bL_rights_160_ok : z_ok cL_rights 160 bL_rights_160 170 = true := by decide +kernel
theorem iL_rights_160 (hr : z_run 13 bL_rights_160 ls st = some (ls', st')) (g : z_J Z mL_rights R k n Q 170 ls' st' h) : z_J Z mL_rights R k n Q 160 ls st h := z_jr bL_rights_160 bL_rights_160_ok hr g
theorem dL_rights_170 : decode cL_rights 170 = .ok (.invokestatic 90, 3) := by decide +kernel
theorem iL_rights_170 (ha : z_args 6 st [] = some (As, rest)) (hc : z_chk rest As 8 = true) (hR : z_rm R R' 8 k n) (gc : z_J Z mL_addRight R' 0 0 Q' 0 As [] h) (kr : ∀ (v : Option Value) (h' : zH), Q' (.inl v) h' → z_J Z mL_rights R (k + R'.cells) (n + R'.slots) Q 173 ls (v.toList ++ rest) h') (kx : ∀ (E : String) (h' : zH), Q' (.inr E) h' → z_JX Z mL_rights R (k + R'.cells) (n + R'.slots) Q 170 ls E h') : z_J Z mL_rights R k n Q 170 ls st h := z_callS (M' := mL_addRight) dL_rights_170 rfl cs_L_90 gw174 ha hR (z_chk1 hc) (z_chk2 hc) (z_chk3 hc) gc kr kx
def bL_rights_173 : zB := [(173, .bipush (-72), 175, -72)]
theorem bL_rights_173_ok : z_ok cL_rights 173 bL_rights_173 175 = true := by decide +kernel
theorem iL_rights_173 (hr : z_run 13 bL_rights_173 ls st = some (ls', st')) (g : z_J Z mL_rights R k n Q 175 ls' st' h) : z_J Z mL_rights R k n Q 173 ls st h := z_jr bL_rights_173 bL_rights_173_ok hr g
theorem dL_rights_175 : decode cL_rights 175 = .ok (.if_icmp .ne 118, 3) := by decide +kernel
theorem iL_rights_175 (kt : ¬ x = y → z_J Z mL_rights R k n Q 293 ls st h) (kf : x = y → z_J Z mL_rights R k n Q 178 ls st h) : z_J Z mL_rights R k n Q 175 ls (.int y :: .int x :: st) h := z_ic_ne dL_rights_175 (tgt := 293) (by decide) rfl kt kf
def bL_rights_178 : zB := [(178, .aload_n 0, 179, nI 0), (179, .iload 9, 181, nI 0), (181, .bipush 10, 183, nI 10), (183, .iload 10, 185, nI 0), (185, .iload 11, 187, nI 0), (187, .iload 12, 189, nI 0)]
theorem bL_rights_178_ok : z_ok cL_rights 178 bL_rights_178 189 = true := by decide +kernel
theorem iL_rights_178 (hr : z_run 13 bL_rights_178 ls st = some (ls', st')) (g : z_J Z mL_rights R k n Q 189 ls' st' h) : z_J Z mL_rights R k n Q 178 ls st h := z_jr bL_rights_178 bL_rights_178_ok hr g
theorem dL_rights_189 : decode cL_rights 189 = .ok (.invokestatic 90, 3) := by decide +kernel
theorem iL_rights_189 (ha : z_args 6 st [] = some (As, rest)) (hc : z_chk rest As 8 = true) (hR : z_rm R R' 8 k n) (gc : z_J Z mL_addRight R' 0 0 Q' 0 As [] h) (kr : ∀ (v : Option Value) (h' : zH), Q' (.inl v) h' → z_J Z mL_rights R (k + R'.cells) (n + R'.slots) Q 192 ls (v.toList ++ rest) h') (kx : ∀ (E : String) (h' : zH), Q' (.inr E) h' → z_JX Z mL_rights R (k + R'.cells) (n + R'.slots) Q 189 ls E h') : z_J Z mL_rights R k n Q 189 ls st h := z_callS (M' := mL_addRight) dL_rights_189 rfl cs_L_90 gw174 ha hR (z_chk1 hc) (z_chk2 hc) (z_chk3 hc) gc kr kx
def bL_rights_192 : zB := [(192, .bipush (-72), 194, -72)]
theorem bL_rights_192_ok : z_ok cL_rights 192 bL_rights_192 194 = true := by decide +kernel
theorem iL_rights_192 (hr : z_run 13 bL_rights_192 ls st = some (ls', st')) (g : z_J Z mL_rights R k n Q 194 ls' st' h) : z_J Z mL_rights R k n Q 192 ls st h := z_jr bL_rights_192 bL_rights_192_ok hr g
theorem dL_rights_194 : decode cL_rights 194 = .ok (.if_icmp .ne 99, 3) := by decide +kernel
theorem iL_rights_194 (kt : ¬ x = y → z_J Z mL_rights R k n Q 293 ls st h) (kf : x = y → z_J Z mL_rights R k n Q 197 ls st h) : z_J Z mL_rights R k n Q 194 ls (.int y :: .int x :: st) h := z_ic_ne dL_rights_194 (tgt := 293) (by decide) rfl kt kf
def bL_rights_197 : zB := [(197, .aload_n 0, 198, nI 0), (198, .iload 9, 200, nI 0), (200, .iload 8, 202, nI 0), (202, .iconst 0, 203, nI 0), (203, .iload 11, 205, nI 0), (205, .iload 12, 207, nI 0)]
theorem bL_rights_197_ok : z_ok cL_rights 197 bL_rights_197 207 = true := by decide +kernel
theorem iL_rights_197 (hr : z_run 13 bL_rights_197 ls st = some (ls', st')) (g : z_J Z mL_rights R k n Q 207 ls' st' h) : z_J Z mL_rights R k n Q 197 ls st h := z_jr bL_rights_197 bL_rights_197_ok hr g
theorem dL_rights_207 : decode cL_rights 207 = .ok (.invokestatic 90, 3) := by decide +kernel
theorem iL_rights_207 (ha : z_args 6 st [] = some (As, rest)) (hc : z_chk rest As 8 = true) (hR : z_rm R R' 8 k n) (gc : z_J Z mL_addRight R' 0 0 Q' 0 As [] h) (kr : ∀ (v : Option Value) (h' : zH), Q' (.inl v) h' → z_J Z mL_rights R (k + R'.cells) (n + R'.slots) Q 210 ls (v.toList ++ rest) h') (kx : ∀ (E : String) (h' : zH), Q' (.inr E) h' → z_JX Z mL_rights R (k + R'.cells) (n + R'.slots) Q 207 ls E h') : z_J Z mL_rights R k n Q 207 ls st h := z_callS (M' := mL_addRight) dL_rights_207 rfl cs_L_90 gw174 ha hR (z_chk1 hc) (z_chk2 hc) (z_chk3 hc) gc kr kx
def bL_rights_210 : zB := [(210, .bipush (-72), 212, -72)]
theorem bL_rights_210_ok : z_ok cL_rights 210 bL_rights_210 212 = true := by decide +kernel
theorem iL_rights_210 (hr : z_run 13 bL_rights_210 ls st = some (ls', st')) (g : z_J Z mL_rights R k n Q 212 ls' st' h) : z_J Z mL_rights R k n Q 210 ls st h := z_jr bL_rights_210 bL_rights_210_ok hr g
theorem dL_rights_212 : decode cL_rights 212 = .ok (.if_icmp .ne 81, 3) := by decide +kernel
theorem iL_rights_212 (kt : ¬ x = y → z_J Z mL_rights R k n Q 293 ls st h) (kf : x = y → z_J Z mL_rights R k n Q 215 ls st h) : z_J Z mL_rights R k n Q 212 ls (.int y :: .int x :: st) h := z_ic_ne dL_rights_212 (tgt := 293) (by decide) rfl kt kf
def bL_rights_215 : zB := [(215, .aload_n 0, 216, nI 0), (216, .iload 9, 218, nI 0), (218, .iload 8, 220, nI 0), (220, .bipush 101, 222, nI 101), (222, .iload 11, 224, nI 0), (224, .iload 12, 226, nI 0)]
theorem bL_rights_215_ok : z_ok cL_rights 215 bL_rights_215 226 = true := by decide +kernel
theorem iL_rights_215 (hr : z_run 13 bL_rights_215 ls st = some (ls', st')) (g : z_J Z mL_rights R k n Q 226 ls' st' h) : z_J Z mL_rights R k n Q 215 ls st h := z_jr bL_rights_215 bL_rights_215_ok hr g
theorem dL_rights_226 : decode cL_rights 226 = .ok (.invokestatic 90, 3) := by decide +kernel
theorem iL_rights_226 (ha : z_args 6 st [] = some (As, rest)) (hc : z_chk rest As 8 = true) (hR : z_rm R R' 8 k n) (gc : z_J Z mL_addRight R' 0 0 Q' 0 As [] h) (kr : ∀ (v : Option Value) (h' : zH), Q' (.inl v) h' → z_J Z mL_rights R (k + R'.cells) (n + R'.slots) Q 229 ls (v.toList ++ rest) h') (kx : ∀ (E : String) (h' : zH), Q' (.inr E) h' → z_JX Z mL_rights R (k + R'.cells) (n + R'.slots) Q 226 ls E h') : z_J Z mL_rights R k n Q 226 ls st h := z_callS (M' := mL_addRight) dL_rights_226 rfl cs_L_90 gw174 ha hR (z_chk1 hc) (z_chk2 hc) (z_chk3 hc) gc kr kx
def bL_rights_229 : zB := [(229, .bipush (-72), 231, -72)]
theorem bL_rights_229_ok : z_ok cL_rights 229 bL_rights_229 231 = true := by decide +kernel
theorem iL_rights_229 (hr : z_run 13 bL_rights_229 ls st = some (ls', st')) (g : z_J Z mL_rights R k n Q 231 ls' st' h) : z_J Z mL_rights R k n Q 229 ls st h := z_jr bL_rights_229 bL_rights_229_ok hr g
theorem dL_rights_231 : decode cL_rights 231 = .ok (.if_icmp .ne 62, 3) := by decide +kernel
theorem iL_rights_231 (kt : ¬ x = y → z_J Z mL_rights R k n Q 293 ls st h) (kf : x = y → z_J Z mL_rights R k n Q 234 ls st h) : z_J Z mL_rights R k n Q 231 ls (.int y :: .int x :: st) h := z_ic_ne dL_rights_231 (tgt := 293) (by decide) rfl kt kf
def bL_rights_234 : zB := [(234, .aload_n 0, 235, nI 0), (235, .iload 9, 237, nI 0), (237, .iload 8, 239, nI 0), (239, .iload 10, 241, nI 0), (241, .iload 11, 243, nI 0), (243, .iload 11, 245, nI 0), (245, .iconst 1, 246, nI 1), (246, .isub, 247, nI 0)]
theorem bL_rights_234_ok : z_ok cL_rights 234 bL_rights_234 247 = true := by decide +kernel
theorem iL_rights_234 (hr : z_run 13 bL_rights_234 ls st = some (ls', st')) (g : z_J Z mL_rights R k n Q 247 ls' st' h) : z_J Z mL_rights R k n Q 234 ls st h := z_jr bL_rights_234 bL_rights_234_ok hr g
theorem dL_rights_247 : decode cL_rights 247 = .ok (.invokestatic 90, 3) := by decide +kernel
theorem iL_rights_247 (ha : z_args 6 st [] = some (As, rest)) (hc : z_chk rest As 8 = true) (hR : z_rm R R' 8 k n) (gc : z_J Z mL_addRight R' 0 0 Q' 0 As [] h) (kr : ∀ (v : Option Value) (h' : zH), Q' (.inl v) h' → z_J Z mL_rights R (k + R'.cells) (n + R'.slots) Q 250 ls (v.toList ++ rest) h') (kx : ∀ (E : String) (h' : zH), Q' (.inr E) h' → z_JX Z mL_rights R (k + R'.cells) (n + R'.slots) Q 247 ls E h') : z_J Z mL_rights R k n Q 247 ls st h := z_callS (M' := mL_addRight) dL_rights_247 rfl cs_L_90 gw174 ha hR (z_chk1 hc) (z_chk2 hc) (z_chk3 hc) gc kr kx
def bL_rights_250 : zB := [(250, .bipush (-72), 252, -72)]
theorem bL_rights_250_ok : z_ok cL_rights 250 bL_rights_250 252 = true := by decide +kernel
theorem iL_rights_250 (hr : z_run 13 bL_rights_250 ls st = some (ls', st')) (g : z_J Z mL_rights R k n Q 252 ls' st' h) : z_J Z mL_rights R k n Q 250 ls st h := z_jr bL_rights_250 bL_rights_250_ok hr g
theorem dL_rights_252 : decode cL_rights 252 = .ok (.if_icmp .ne 41, 3) := by decide +kernel
theorem iL_rights_252 (kt : ¬ x = y → z_J Z mL_rights R k n Q 293 ls st h) (kf : x = y → z_J Z mL_rights R k n Q 255 ls st h) : z_J Z mL_rights R k n Q 252 ls (.int y :: .int x :: st) h := z_ic_ne dL_rights_252 (tgt := 293) (by decide) rfl kt kf
def bL_rights_255 : zB := [(255, .aload_n 0, 256, nI 0), (256, .iload 9, 258, nI 0), (258, .iload 8, 260, nI 0), (260, .iload 10, 262, nI 0), (262, .iconst (-1), 263, -1), (263, .iload 12, 265, nI 0)]
theorem bL_rights_255_ok : z_ok cL_rights 255 bL_rights_255 265 = true := by decide +kernel
theorem iL_rights_255 (hr : z_run 13 bL_rights_255 ls st = some (ls', st')) (g : z_J Z mL_rights R k n Q 265 ls' st' h) : z_J Z mL_rights R k n Q 255 ls st h := z_jr bL_rights_255 bL_rights_255_ok hr g
theorem dL_rights_265 : decode cL_rights 265 = .ok (.invokestatic 90, 3) := by decide +kernel
theorem iL_rights_265 (ha : z_args 6 st [] = some (As, rest)) (hc : z_chk rest As 8 = true) (hR : z_rm R R' 8 k n) (gc : z_J Z mL_addRight R' 0 0 Q' 0 As [] h) (kr : ∀ (v : Option Value) (h' : zH), Q' (.inl v) h' → z_J Z mL_rights R (k + R'.cells) (n + R'.slots) Q 268 ls (v.toList ++ rest) h') (kx : ∀ (E : String) (h' : zH), Q' (.inr E) h' → z_JX Z mL_rights R (k + R'.cells) (n + R'.slots) Q 265 ls E h') : z_J Z mL_rights R k n Q 265 ls st h := z_callS (M' := mL_addRight) dL_rights_265 rfl cs_L_90 gw174 ha hR (z_chk1 hc) (z_chk2 hc) (z_chk3 hc) gc kr kx
def bL_rights_268 : zB := [(268, .bipush (-72), 270, -72)]
theorem bL_rights_268_ok : z_ok cL_rights 268 bL_rights_268 270 = true := by decide +kernel
theorem iL_rights_268 (hr : z_run 13 bL_rights_268 ls st = some (ls', st')) (g : z_J Z mL_rights R k n Q 270 ls' st' h) : z_J Z mL_rights R k n Q 268 ls st h := z_jr bL_rights_268 bL_rights_268_ok hr g
theorem dL_rights_270 : decode cL_rights 270 = .ok (.if_icmp .ne 23, 3) := by decide +kernel
theorem iL_rights_270 (kt : ¬ x = y → z_J Z mL_rights R k n Q 293 ls st h) (kf : x = y → z_J Z mL_rights R k n Q 273 ls st h) : z_J Z mL_rights R k n Q 270 ls (.int y :: .int x :: st) h := z_ic_ne dL_rights_270 (tgt := 293) (by decide) rfl kt kf
def bL_rights_273 : zB := [(273, .aload_n 0, 274, nI 0), (274, .iload 9, 276, nI 0), (276, .iload 8, 278, nI 0), (278, .iload 10, 280, nI 0), (280, .iload 11, 282, nI 0), (282, .sipush 721, 285, nI 721)]
theorem bL_rights_273_ok : z_ok cL_rights 273 bL_rights_273 285 = true := by decide +kernel
theorem iL_rights_273 (hr : z_run 13 bL_rights_273 ls st = some (ls', st')) (g : z_J Z mL_rights R k n Q 285 ls' st' h) : z_J Z mL_rights R k n Q 273 ls st h := z_jr bL_rights_273 bL_rights_273_ok hr g
theorem dL_rights_285 : decode cL_rights 285 = .ok (.invokestatic 90, 3) := by decide +kernel
theorem iL_rights_285 (ha : z_args 6 st [] = some (As, rest)) (hc : z_chk rest As 8 = true) (hR : z_rm R R' 8 k n) (gc : z_J Z mL_addRight R' 0 0 Q' 0 As [] h) (kr : ∀ (v : Option Value) (h' : zH), Q' (.inl v) h' → z_J Z mL_rights R (k + R'.cells) (n + R'.slots) Q 288 ls (v.toList ++ rest) h') (kx : ∀ (E : String) (h' : zH), Q' (.inr E) h' → z_JX Z mL_rights R (k + R'.cells) (n + R'.slots) Q 285 ls E h') : z_J Z mL_rights R k n Q 285 ls st h := z_callS (M' := mL_addRight) dL_rights_285 rfl cs_L_90 gw174 ha hR (z_chk1 hc) (z_chk2 hc) (z_chk3 hc) gc kr kx
def bL_rights_288 : zB := [(288, .bipush (-72), 290, -72)]
theorem bL_rights_288_ok : z_ok cL_rights 288 bL_rights_288 290 = true := by decide +kernel
theorem iL_rights_288 (hr : z_run 13 bL_rights_288 ls st = some (ls', st')) (g : z_J Z mL_rights R k n Q 290 ls' st' h) : z_J Z mL_rights R k n Q 288 ls st h := z_jr bL_rights_288 bL_rights_288_ok hr g
theorem dL_rights_290 : decode cL_rights 290 = .ok (.if_icmp .eq 5, 3) := by decide +kernel
theorem iL_rights_290 (kt : x = y → z_J Z mL_rights R k n Q 295 ls st h) (kf : ¬ x = y → z_J Z mL_rights R k n Q 293 ls st h) : z_J Z mL_rights R k n Q 290 ls (.int y :: .int x :: st) h := z_ic_eq dL_rights_290 (tgt := 295) (by decide) rfl kt kf
def bL_rights_293 : zB := [(293, .iconst 0, 294, nI 0)]
theorem bL_rights_293_ok : z_ok cL_rights 293 bL_rights_293 294 = true := by decide +kernel
theorem iL_rights_293 (hr : z_run 13 bL_rights_293 ls st = some (ls', st')) (g : z_J Z mL_rights R k n Q 294 ls' st' h) : z_J Z mL_rights R k n Q 293 ls st h := z_jr bL_rights_293 bL_rights_293_ok hr g
theorem dL_rights_294 : decode cL_rights 294 = .ok (.ireturn, 1) := by decide +kernel
theorem iL_rights_294 (hz : narrow .boolean (.int x) = .int x) (hk : k ≤ R.cells) (hs : n ≤ R.slots) (hq : Q (.inl (some (.int x))) h) : z_J Z mL_rights R k n Q 294 ls [.int x] h := z_iret (ty := .boolean) dL_rights_294 rfl hz hk hs hq
def bL_rights_295 : zB := [(295, .aload 6, 297, nI 0), (297, .iconst 0, 298, nI 0)]
theorem bL_rights_295_ok : z_ok cL_rights 295 bL_rights_295 298 = true := by decide +kernel
theorem iL_rights_295 (hr : z_run 13 bL_rights_295 ls st = some (ls', st')) (g : z_J Z mL_rights R k n Q 298 ls' st' h) : z_J Z mL_rights R k n Q 295 ls st h := z_jr bL_rights_295 bL_rights_295_ok hr g
theorem dL_rights_298 : decode cL_rights 298 = .ok (.iaload, 1) := by decide +kernel
theorem iL_rights_298 {f : Nat → Int32} (hh : h r = some (a, .inl (0, N, .inl f))) (hi : i = nI j) (hj : j < N) (hN : N < 2 ^ 31) (g : z_J Z mL_rights R k n Q 299 ls (.int (f j) :: st) h) : z_J Z mL_rights R k n Q 298 ls (.int i :: .ref a :: st) h := z_iald dL_rights_298 rfl hh hi hj hN g
def bL_rights_299 : zB := [(299, .bipush 10, 301, nI 10)]
theorem bL_rights_299_ok : z_ok cL_rights 299 bL_rights_299 301 = true := by decide +kernel
theorem iL_rights_299 (hr : z_run 13 bL_rights_299 ls st = some (ls', st')) (g : z_J Z mL_rights R k n Q 301 ls' st' h) : z_J Z mL_rights R k n Q 299 ls st h := z_jr bL_rights_299 bL_rights_299_ok hr g
theorem dL_rights_301 : decode cL_rights 301 = .ok (.if_icmp .ne 28, 3) := by decide +kernel
theorem iL_rights_301 (kt : ¬ x = y → z_J Z mL_rights R k n Q 329 ls st h) (kf : x = y → z_J Z mL_rights R k n Q 304 ls st h) : z_J Z mL_rights R k n Q 301 ls (.int y :: .int x :: st) h := z_ic_ne dL_rights_301 (tgt := 329) (by decide) rfl kt kf
def bL_rights_304 : zB := [(304, .aload_n 0, 305, nI 0), (305, .iload 9, 307, nI 0), (307, .iload 8, 309, nI 0), (309, .iload 10, 311, nI 0), (311, .iload 11, 313, nI 0), (313, .iload 12, 315, nI 0)]
theorem bL_rights_304_ok : z_ok cL_rights 304 bL_rights_304 315 = true := by decide +kernel
theorem iL_rights_304 (hr : z_run 13 bL_rights_304 ls st = some (ls', st')) (g : z_J Z mL_rights R k n Q 315 ls' st' h) : z_J Z mL_rights R k n Q 304 ls st h := z_jr bL_rights_304 bL_rights_304_ok hr g
theorem dL_rights_315 : decode cL_rights 315 = .ok (.invokestatic 90, 3) := by decide +kernel
theorem iL_rights_315 (ha : z_args 6 st [] = some (As, rest)) (hc : z_chk rest As 8 = true) (hR : z_rm R R' 8 k n) (gc : z_J Z mL_addRight R' 0 0 Q' 0 As [] h) (kr : ∀ (v : Option Value) (h' : zH), Q' (.inl v) h' → z_J Z mL_rights R (k + R'.cells) (n + R'.slots) Q 318 ls (v.toList ++ rest) h') (kx : ∀ (E : String) (h' : zH), Q' (.inr E) h' → z_JX Z mL_rights R (k + R'.cells) (n + R'.slots) Q 315 ls E h') : z_J Z mL_rights R k n Q 315 ls st h := z_callS (M' := mL_addRight) dL_rights_315 rfl cs_L_90 gw174 ha hR (z_chk1 hc) (z_chk2 hc) (z_chk3 hc) gc kr kx
def bL_rights_318 : zB := [(318, .bipush (-73), 320, -73)]
theorem bL_rights_318_ok : z_ok cL_rights 318 bL_rights_318 320 = true := by decide +kernel
theorem iL_rights_318 (hr : z_run 13 bL_rights_318 ls st = some (ls', st')) (g : z_J Z mL_rights R k n Q 320 ls' st' h) : z_J Z mL_rights R k n Q 318 ls st h := z_jr bL_rights_318 bL_rights_318_ok hr g
theorem dL_rights_320 : decode cL_rights 320 = .ok (.if_icmp .ne 7, 3) := by decide +kernel
theorem iL_rights_320 (kt : ¬ x = y → z_J Z mL_rights R k n Q 327 ls st h) (kf : x = y → z_J Z mL_rights R k n Q 323 ls st h) : z_J Z mL_rights R k n Q 320 ls (.int y :: .int x :: st) h := z_ic_ne dL_rights_320 (tgt := 327) (by decide) rfl kt kf
def bL_rights_323 : zB := [(323, .iconst 1, 324, nI 1), (324, .goto 4, 328, nI 0)]
theorem bL_rights_323_ok : z_ok cL_rights 323 bL_rights_323 328 = true := by decide +kernel
theorem iL_rights_323 (hr : z_run 13 bL_rights_323 ls st = some (ls', st')) (g : z_J Z mL_rights R k n Q 328 ls' st' h) : z_J Z mL_rights R k n Q 323 ls st h := z_jr bL_rights_323 bL_rights_323_ok hr g
def bL_rights_327 : zB := [(327, .iconst 0, 328, nI 0)]
theorem bL_rights_327_ok : z_ok cL_rights 327 bL_rights_327 328 = true := by decide +kernel
theorem iL_rights_327 (hr : z_run 13 bL_rights_327 ls st = some (ls', st')) (g : z_J Z mL_rights R k n Q 328 ls' st' h) : z_J Z mL_rights R k n Q 327 ls st h := z_jr bL_rights_327 bL_rights_327_ok hr g
theorem dL_rights_328 : decode cL_rights 328 = .ok (.ireturn, 1) := by decide +kernel
theorem iL_rights_328 (hz : narrow .boolean (.int x) = .int x) (hk : k ≤ R.cells) (hs : n ≤ R.slots) (hq : Q (.inl (some (.int x))) h) : z_J Z mL_rights R k n Q 328 ls [.int x] h := z_iret (ty := .boolean) dL_rights_328 rfl hz hk hs hq
def bL_rights_329 : zB := [(329, .aload 4, 331, nI 0), (331, .aload 6, 333, nI 0), (333, .iconst 0, 334, nI 0)]
theorem bL_rights_329_ok : z_ok cL_rights 329 bL_rights_329 334 = true := by decide +kernel
theorem iL_rights_329 (hr : z_run 13 bL_rights_329 ls st = some (ls', st')) (g : z_J Z mL_rights R k n Q 334 ls' st' h) : z_J Z mL_rights R k n Q 329 ls st h := z_jr bL_rights_329 bL_rights_329_ok hr g
theorem dL_rights_334 : decode cL_rights 334 = .ok (.iaload, 1) := by decide +kernel
theorem iL_rights_334 {f : Nat → Int32} (hh : h r = some (a, .inl (0, N, .inl f))) (hi : i = nI j) (hj : j < N) (hN : N < 2 ^ 31) (g : z_J Z mL_rights R k n Q 335 ls (.int (f j) :: st) h) : z_J Z mL_rights R k n Q 334 ls (.int i :: .ref a :: st) h := z_iald dL_rights_334 rfl hh hi hj hN g
def bL_rights_335 : zB := [(335, .iload 9, 337, nI 0), (337, .bipush 32, 339, nI 32), (339, .iload 8, 341, nI 0), (341, .imul, 342, nI 0), (342, .iadd, 343, nI 0), (343, .sipush 512, 346, nI 512), (346, .iload 10, 348, nI 0), (348, .imul, 349, nI 0), (349, .iadd, 350, nI 0)]
theorem bL_rights_335_ok : z_ok cL_rights 335 bL_rights_335 350 = true := by decide +kernel
theorem iL_rights_335 (hr : z_run 13 bL_rights_335 ls st = some (ls', st')) (g : z_J Z mL_rights R k n Q 350 ls' st' h) : z_J Z mL_rights R k n Q 335 ls st h := z_jr bL_rights_335 bL_rights_335_ok hr g
theorem dL_rights_350 : decode cL_rights 350 = .ok (.iastore, 1) := by decide +kernel
theorem iL_rights_350 {f : Nat → Int32} (hh : h r = some (a, .inl (0, N, .inl f))) (hi : i = nI j) (hj : j < N) (hN : N < 2 ^ 31) (g : z_J Z mL_rights R k n Q 351 ls st (z_u h r (a, .inl (0, N, .inl (upd f j x))))) : z_J Z mL_rights R k n Q 350 ls (.int x :: .int i :: .ref a :: st) h := z_iast dL_rights_350 rfl hh hi hj hN g
def bL_rights_351 : zB := [(351, .aload 5, 353, nI 0), (353, .aload 6, 355, nI 0), (355, .iconst 0, 356, nI 0)]
theorem bL_rights_351_ok : z_ok cL_rights 351 bL_rights_351 356 = true := by decide +kernel
theorem iL_rights_351 (hr : z_run 13 bL_rights_351 ls st = some (ls', st')) (g : z_J Z mL_rights R k n Q 356 ls' st' h) : z_J Z mL_rights R k n Q 351 ls st h := z_jr bL_rights_351 bL_rights_351_ok hr g
theorem dL_rights_356 : decode cL_rights 356 = .ok (.iaload, 1) := by decide +kernel
theorem iL_rights_356 {f : Nat → Int32} (hh : h r = some (a, .inl (0, N, .inl f))) (hi : i = nI j) (hj : j < N) (hN : N < 2 ^ 31) (g : z_J Z mL_rights R k n Q 357 ls (.int (f j) :: st) h) : z_J Z mL_rights R k n Q 356 ls (.int i :: .ref a :: st) h := z_iald dL_rights_356 rfl hh hi hj hN g
def bL_rights_357 : zB := [(357, .iload 11, 359, nI 0), (359, .sipush 1024, 362, nI 1024), (362, .iload 12, 364, nI 0), (364, .imul, 365, nI 0), (365, .iadd, 366, nI 0)]
theorem bL_rights_357_ok : z_ok cL_rights 357 bL_rights_357 366 = true := by decide +kernel
theorem iL_rights_357 (hr : z_run 13 bL_rights_357 ls st = some (ls', st')) (g : z_J Z mL_rights R k n Q 366 ls' st' h) : z_J Z mL_rights R k n Q 357 ls st h := z_jr bL_rights_357 bL_rights_357_ok hr g
theorem dL_rights_366 : decode cL_rights 366 = .ok (.iastore, 1) := by decide +kernel
theorem iL_rights_366 {f : Nat → Int32} (hh : h r = some (a, .inl (0, N, .inl f))) (hi : i = nI j) (hj : j < N) (hN : N < 2 ^ 31) (g : z_J Z mL_rights R k n Q 367 ls st (z_u h r (a, .inl (0, N, .inl (upd f j x))))) : z_J Z mL_rights R k n Q 366 ls (.int x :: .int i :: .ref a :: st) h := z_iast dL_rights_366 rfl hh hi hj hN g
def bL_rights_367 : zB := [(367, .aload 6, 369, nI 0), (369, .iconst 0, 370, nI 0), (370, .dup2, 371, nI 0)]
theorem bL_rights_367_ok : z_ok cL_rights 367 bL_rights_367 371 = true := by decide +kernel
theorem iL_rights_367 (hr : z_run 13 bL_rights_367 ls st = some (ls', st')) (g : z_J Z mL_rights R k n Q 371 ls' st' h) : z_J Z mL_rights R k n Q 367 ls st h := z_jr bL_rights_367 bL_rights_367_ok hr g
theorem dL_rights_371 : decode cL_rights 371 = .ok (.iaload, 1) := by decide +kernel
theorem iL_rights_371 {f : Nat → Int32} (hh : h r = some (a, .inl (0, N, .inl f))) (hi : i = nI j) (hj : j < N) (hN : N < 2 ^ 31) (g : z_J Z mL_rights R k n Q 372 ls (.int (f j) :: st) h) : z_J Z mL_rights R k n Q 371 ls (.int i :: .ref a :: st) h := z_iald dL_rights_371 rfl hh hi hj hN g
def bL_rights_372 : zB := [(372, .iconst 1, 373, nI 1), (373, .iadd, 374, nI 0)]
theorem bL_rights_372_ok : z_ok cL_rights 372 bL_rights_372 374 = true := by decide +kernel
theorem iL_rights_372 (hr : z_run 13 bL_rights_372 ls st = some (ls', st')) (g : z_J Z mL_rights R k n Q 374 ls' st' h) : z_J Z mL_rights R k n Q 372 ls st h := z_jr bL_rights_372 bL_rights_372_ok hr g
theorem dL_rights_374 : decode cL_rights 374 = .ok (.iastore, 1) := by decide +kernel
theorem iL_rights_374 {f : Nat → Int32} (hh : h r = some (a, .inl (0, N, .inl f))) (hi : i = nI j) (hj : j < N) (hN : N < 2 ^ 31) (g : z_J Z mL_rights R k n Q 375 ls st (z_u h r (a, .inl (0, N, .inl (upd f j x))))) : z_J Z mL_rights R k n Q 374 ls (.int x :: .int i :: .ref a :: st) h := z_iast dL_rights_374 rfl hh hi hj hN g
def bL_rights_375 : zB := [(375, .aload_n 0, 376, nI 0), (376, .iload 9, 378, nI 0), (378, .iload 8, 380, nI 0), (380, .iload 10, 382, nI 0), (382, .iload 11, 384, nI 0), (384, .iload 12, 386, nI 0)]
theorem bL_rights_375_ok : z_ok cL_rights 375 bL_rights_375 386 = true := by decide +kernel
theorem iL_rights_375 (hr : z_run 13 bL_rights_375 ls st = some (ls', st')) (g : z_J Z mL_rights R k n Q 386 ls' st' h) : z_J Z mL_rights R k n Q 375 ls st h := z_jr bL_rights_375 bL_rights_375_ok hr g
theorem dL_rights_386 : decode cL_rights 386 = .ok (.invokestatic 90, 3) := by decide +kernel
theorem iL_rights_386 (ha : z_args 6 st [] = some (As, rest)) (hc : z_chk rest As 8 = true) (hR : z_rm R R' 8 k n) (gc : z_J Z mL_addRight R' 0 0 Q' 0 As [] h) (kr : ∀ (v : Option Value) (h' : zH), Q' (.inl v) h' → z_J Z mL_rights R (k + R'.cells) (n + R'.slots) Q 389 ls (v.toList ++ rest) h') (kx : ∀ (E : String) (h' : zH), Q' (.inr E) h' → z_JX Z mL_rights R (k + R'.cells) (n + R'.slots) Q 386 ls E h') : z_J Z mL_rights R k n Q 386 ls st h := z_callS (M' := mL_addRight) dL_rights_386 rfl cs_L_90 gw174 ha hR (z_chk1 hc) (z_chk2 hc) (z_chk3 hc) gc kr kx
def bL_rights_389 : zB := [(389, .aload 6, 391, nI 0), (391, .iconst 0, 392, nI 0)]
theorem bL_rights_389_ok : z_ok cL_rights 389 bL_rights_389 392 = true := by decide +kernel
theorem iL_rights_389 (hr : z_run 13 bL_rights_389 ls st = some (ls', st')) (g : z_J Z mL_rights R k n Q 392 ls' st' h) : z_J Z mL_rights R k n Q 389 ls st h := z_jr bL_rights_389 bL_rights_389_ok hr g
theorem dL_rights_392 : decode cL_rights 392 = .ok (.iaload, 1) := by decide +kernel
theorem iL_rights_392 {f : Nat → Int32} (hh : h r = some (a, .inl (0, N, .inl f))) (hi : i = nI j) (hj : j < N) (hN : N < 2 ^ 31) (g : z_J Z mL_rights R k n Q 393 ls (.int (f j) :: st) h) : z_J Z mL_rights R k n Q 392 ls (.int i :: .ref a :: st) h := z_iald dL_rights_392 rfl hh hi hj hN g
def bL_rights_393 : zB := [(393, .iconst 1, 394, nI 1), (394, .isub, 395, nI 0)]
theorem bL_rights_393_ok : z_ok cL_rights 393 bL_rights_393 395 = true := by decide +kernel
theorem iL_rights_393 (hr : z_run 13 bL_rights_393 ls st = some (ls', st')) (g : z_J Z mL_rights R k n Q 395 ls' st' h) : z_J Z mL_rights R k n Q 393 ls st h := z_jr bL_rights_393 bL_rights_393_ok hr g
theorem dL_rights_395 : decode cL_rights 395 = .ok (.if_icmp .ne 7, 3) := by decide +kernel
theorem iL_rights_395 (kt : ¬ x = y → z_J Z mL_rights R k n Q 402 ls st h) (kf : x = y → z_J Z mL_rights R k n Q 398 ls st h) : z_J Z mL_rights R k n Q 395 ls (.int y :: .int x :: st) h := z_ic_ne dL_rights_395 (tgt := 402) (by decide) rfl kt kf
def bL_rights_398 : zB := [(398, .iconst 1, 399, nI 1), (399, .goto 4, 403, nI 0)]
theorem bL_rights_398_ok : z_ok cL_rights 398 bL_rights_398 403 = true := by decide +kernel
theorem iL_rights_398 (hr : z_run 13 bL_rights_398 ls st = some (ls', st')) (g : z_J Z mL_rights R k n Q 403 ls' st' h) : z_J Z mL_rights R k n Q 398 ls st h := z_jr bL_rights_398 bL_rights_398_ok hr g
def bL_rights_402 : zB := [(402, .iconst 0, 403, nI 0)]
theorem bL_rights_402_ok : z_ok cL_rights 402 bL_rights_402 403 = true := by decide +kernel
theorem iL_rights_402 (hr : z_run 13 bL_rights_402 ls st = some (ls', st')) (g : z_J Z mL_rights R k n Q 403 ls' st' h) : z_J Z mL_rights R k n Q 402 ls st h := z_jr bL_rights_402 bL_rights_402_ok hr g
theorem dL_rights_403 : decode cL_rights 403 = .ok (.ireturn, 1) := by decide +kernel
theorem iL_rights_403 (hz : narrow .boolean (.int x) = .int x) (hk : k ≤ R.cells) (hs : n ≤ R.slots) (hq : Q (.inl (some (.int x))) h) : z_J Z mL_rights R k n Q 403 ls [.int x] h := z_iret (ty := .boolean) dL_rights_403 rfl hz hk hs hq
def bL_rights_404 : zB := [(404, .iload 7, 406, nI 0), (406, .aload 6, 408, nI 0), (408, .iconst 0, 409, nI 0)]
theorem bL_rights_404_ok : z_ok cL_rights 404 bL_rights_404 409 = true := by decide +kernel
theorem iL_rights_404 (hr : z_run 13 bL_rights_404 ls st = some (ls', st')) (g : z_J Z mL_rights R k n Q 409 ls' st' h) : z_J Z mL_rights R k n Q 404 ls st h := z_jr bL_rights_404 bL_rights_404_ok hr g
theorem dL_rights_409 : decode cL_rights 409 = .ok (.iaload, 1) := by decide +kernel
theorem iL_rights_409 {f : Nat → Int32} (hh : h r = some (a, .inl (0, N, .inl f))) (hi : i = nI j) (hj : j < N) (hN : N < 2 ^ 31) (g : z_J Z mL_rights R k n Q 410 ls (.int (f j) :: st) h) : z_J Z mL_rights R k n Q 409 ls (.int i :: .ref a :: st) h := z_iald dL_rights_409 rfl hh hi hj hN g
theorem dL_rights_410 : decode cL_rights 410 = .ok (.if_icmp .ne 57, 3) := by decide +kernel
theorem iL_rights_410 (kt : ¬ x = y → z_J Z mL_rights R k n Q 467 ls st h) (kf : x = y → z_J Z mL_rights R k n Q 413 ls st h) : z_J Z mL_rights R k n Q 410 ls (.int y :: .int x :: st) h := z_ic_ne dL_rights_410 (tgt := 467) (by decide) rfl kt kf
def bL_rights_413 : zB := [(413, .aload_n 0, 414, nI 0), (414, .iload 7, 416, nI 0), (416, .bipush 10, 418, nI 10)]
theorem bL_rights_413_ok : z_ok cL_rights 413 bL_rights_413 418 = true := by decide +kernel
theorem iL_rights_413 (hr : z_run 13 bL_rights_413 ls st = some (ls', st')) (g : z_J Z mL_rights R k n Q 418 ls' st' h) : z_J Z mL_rights R k n Q 413 ls st h := z_jr bL_rights_413 bL_rights_413_ok hr g
theorem dL_rights_418 : decode cL_rights 418 = .ok (.invokestatic 93, 3) := by decide +kernel
theorem iL_rights_418 (ha : z_args 3 st [] = some (As, rest)) (hc : z_chk rest As 5 = true) (hR : z_rm R R' 5 k n) (gc : z_J Z mL_upgrade R' 0 0 Q' 0 As [] h) (kr : ∀ (v : Option Value) (h' : zH), Q' (.inl v) h' → z_J Z mL_rights R (k + R'.cells) (n + R'.slots) Q 421 ls (v.toList ++ rest) h') (kx : ∀ (E : String) (h' : zH), Q' (.inr E) h' → z_JX Z mL_rights R (k + R'.cells) (n + R'.slots) Q 418 ls E h') : z_J Z mL_rights R k n Q 418 ls st h := z_callS (M' := mL_upgrade) dL_rights_418 rfl cs_L_93 gw355 ha hR (z_chk1 hc) (z_chk2 hc) (z_chk3 hc) gc kr kx
def bL_rights_421 : zB := [(421, .bipush (-71), 423, -71)]
theorem bL_rights_421_ok : z_ok cL_rights 421 bL_rights_421 423 = true := by decide +kernel
theorem iL_rights_421 (hr : z_run 13 bL_rights_421 ls st = some (ls', st')) (g : z_J Z mL_rights R k n Q 423 ls' st' h) : z_J Z mL_rights R k n Q 421 ls st h := z_jr bL_rights_421 bL_rights_421_ok hr g
theorem dL_rights_423 : decode cL_rights 423 = .ok (.if_icmp .ne 42, 3) := by decide +kernel
theorem iL_rights_423 (kt : ¬ x = y → z_J Z mL_rights R k n Q 465 ls st h) (kf : x = y → z_J Z mL_rights R k n Q 426 ls st h) : z_J Z mL_rights R k n Q 423 ls (.int y :: .int x :: st) h := z_ic_ne dL_rights_423 (tgt := 465) (by decide) rfl kt kf
def bL_rights_426 : zB := [(426, .aload_n 0, 427, nI 0), (427, .iconst (-1), 428, -1), (428, .bipush 101, 430, nI 101)]
theorem bL_rights_426_ok : z_ok cL_rights 426 bL_rights_426 430 = true := by decide +kernel
theorem iL_rights_426 (hr : z_run 13 bL_rights_426 ls st = some (ls', st')) (g : z_J Z mL_rights R k n Q 430 ls' st' h) : z_J Z mL_rights R k n Q 426 ls st h := z_jr bL_rights_426 bL_rights_426_ok hr g
theorem dL_rights_430 : decode cL_rights 430 = .ok (.invokestatic 96, 3) := by decide +kernel
theorem iL_rights_430 (ha : z_args 3 st [] = some (As, rest)) (hc : z_chk rest As 5 = true) (hR : z_rm R R' 5 k n) (gc : z_J Z mL_setUnits R' 0 0 Q' 0 As [] h) (kr : ∀ (v : Option Value) (h' : zH), Q' (.inl v) h' → z_J Z mL_rights R (k + R'.cells) (n + R'.slots) Q 433 ls (v.toList ++ rest) h') (kx : ∀ (E : String) (h' : zH), Q' (.inr E) h' → z_JX Z mL_rights R (k + R'.cells) (n + R'.slots) Q 430 ls E h') : z_J Z mL_rights R k n Q 430 ls st h := z_callS (M' := mL_setUnits) dL_rights_430 rfl cs_L_96 gw398 ha hR (z_chk1 hc) (z_chk2 hc) (z_chk3 hc) gc kr kx
def bL_rights_433 : zB := [(433, .bipush (-71), 435, -71)]
theorem bL_rights_433_ok : z_ok cL_rights 433 bL_rights_433 435 = true := by decide +kernel
theorem iL_rights_433 (hr : z_run 13 bL_rights_433 ls st = some (ls', st')) (g : z_J Z mL_rights R k n Q 435 ls' st' h) : z_J Z mL_rights R k n Q 433 ls st h := z_jr bL_rights_433 bL_rights_433_ok hr g
theorem dL_rights_435 : decode cL_rights 435 = .ok (.if_icmp .ne 30, 3) := by decide +kernel
theorem iL_rights_435 (kt : ¬ x = y → z_J Z mL_rights R k n Q 465 ls st h) (kf : x = y → z_J Z mL_rights R k n Q 438 ls st h) : z_J Z mL_rights R k n Q 435 ls (.int y :: .int x :: st) h := z_ic_ne dL_rights_435 (tgt := 465) (by decide) rfl kt kf
def bL_rights_438 : zB := [(438, .aload_n 0, 439, nI 0), (439, .iconst (-1), 440, -1), (440, .iconst 1, 441, nI 1)]
theorem bL_rights_438_ok : z_ok cL_rights 438 bL_rights_438 441 = true := by decide +kernel
theorem iL_rights_438 (hr : z_run 13 bL_rights_438 ls st = some (ls', st')) (g : z_J Z mL_rights R k n Q 441 ls' st' h) : z_J Z mL_rights R k n Q 438 ls st h := z_jr bL_rights_438 bL_rights_438_ok hr g
theorem dL_rights_441 : decode cL_rights 441 = .ok (.invokestatic 93, 3) := by decide +kernel
theorem iL_rights_441 (ha : z_args 3 st [] = some (As, rest)) (hc : z_chk rest As 5 = true) (hR : z_rm R R' 5 k n) (gc : z_J Z mL_upgrade R' 0 0 Q' 0 As [] h) (kr : ∀ (v : Option Value) (h' : zH), Q' (.inl v) h' → z_J Z mL_rights R (k + R'.cells) (n + R'.slots) Q 444 ls (v.toList ++ rest) h') (kx : ∀ (E : String) (h' : zH), Q' (.inr E) h' → z_JX Z mL_rights R (k + R'.cells) (n + R'.slots) Q 441 ls E h') : z_J Z mL_rights R k n Q 441 ls st h := z_callS (M' := mL_upgrade) dL_rights_441 rfl cs_L_93 gw355 ha hR (z_chk1 hc) (z_chk2 hc) (z_chk3 hc) gc kr kx
def bL_rights_444 : zB := [(444, .bipush (-71), 446, -71)]
theorem bL_rights_444_ok : z_ok cL_rights 444 bL_rights_444 446 = true := by decide +kernel
theorem iL_rights_444 (hr : z_run 13 bL_rights_444 ls st = some (ls', st')) (g : z_J Z mL_rights R k n Q 446 ls' st' h) : z_J Z mL_rights R k n Q 444 ls st h := z_jr bL_rights_444 bL_rights_444_ok hr g
theorem dL_rights_446 : decode cL_rights 446 = .ok (.if_icmp .ne 19, 3) := by decide +kernel
theorem iL_rights_446 (kt : ¬ x = y → z_J Z mL_rights R k n Q 465 ls st h) (kf : x = y → z_J Z mL_rights R k n Q 449 ls st h) : z_J Z mL_rights R k n Q 446 ls (.int y :: .int x :: st) h := z_ic_ne dL_rights_446 (tgt := 465) (by decide) rfl kt kf
def bL_rights_449 : zB := [(449, .aload_n 0, 450, nI 0), (450, .iload 7, 452, nI 0), (452, .iconst 0, 453, nI 0)]
theorem bL_rights_449_ok : z_ok cL_rights 449 bL_rights_449 453 = true := by decide +kernel
theorem iL_rights_449 (hr : z_run 13 bL_rights_449 ls st = some (ls', st')) (g : z_J Z mL_rights R k n Q 453 ls' st' h) : z_J Z mL_rights R k n Q 449 ls st h := z_jr bL_rights_449 bL_rights_449_ok hr g
theorem dL_rights_453 : decode cL_rights 453 = .ok (.invokestatic 96, 3) := by decide +kernel
theorem iL_rights_453 (ha : z_args 3 st [] = some (As, rest)) (hc : z_chk rest As 5 = true) (hR : z_rm R R' 5 k n) (gc : z_J Z mL_setUnits R' 0 0 Q' 0 As [] h) (kr : ∀ (v : Option Value) (h' : zH), Q' (.inl v) h' → z_J Z mL_rights R (k + R'.cells) (n + R'.slots) Q 456 ls (v.toList ++ rest) h') (kx : ∀ (E : String) (h' : zH), Q' (.inr E) h' → z_JX Z mL_rights R (k + R'.cells) (n + R'.slots) Q 453 ls E h') : z_J Z mL_rights R k n Q 453 ls st h := z_callS (M' := mL_setUnits) dL_rights_453 rfl cs_L_96 gw398 ha hR (z_chk1 hc) (z_chk2 hc) (z_chk3 hc) gc kr kx
def bL_rights_456 : zB := [(456, .bipush (-71), 458, -71)]
theorem bL_rights_456_ok : z_ok cL_rights 456 bL_rights_456 458 = true := by decide +kernel
theorem iL_rights_456 (hr : z_run 13 bL_rights_456 ls st = some (ls', st')) (g : z_J Z mL_rights R k n Q 458 ls' st' h) : z_J Z mL_rights R k n Q 456 ls st h := z_jr bL_rights_456 bL_rights_456_ok hr g
theorem dL_rights_458 : decode cL_rights 458 = .ok (.if_icmp .ne 7, 3) := by decide +kernel
theorem iL_rights_458 (kt : ¬ x = y → z_J Z mL_rights R k n Q 465 ls st h) (kf : x = y → z_J Z mL_rights R k n Q 461 ls st h) : z_J Z mL_rights R k n Q 458 ls (.int y :: .int x :: st) h := z_ic_ne dL_rights_458 (tgt := 465) (by decide) rfl kt kf
def bL_rights_461 : zB := [(461, .iconst 1, 462, nI 1), (462, .goto 4, 466, nI 0)]
theorem bL_rights_461_ok : z_ok cL_rights 461 bL_rights_461 466 = true := by decide +kernel
theorem iL_rights_461 (hr : z_run 13 bL_rights_461 ls st = some (ls', st')) (g : z_J Z mL_rights R k n Q 466 ls' st' h) : z_J Z mL_rights R k n Q 461 ls st h := z_jr bL_rights_461 bL_rights_461_ok hr g
def bL_rights_465 : zB := [(465, .iconst 0, 466, nI 0)]
theorem bL_rights_465_ok : z_ok cL_rights 465 bL_rights_465 466 = true := by decide +kernel
theorem iL_rights_465 (hr : z_run 13 bL_rights_465 ls st = some (ls', st')) (g : z_J Z mL_rights R k n Q 466 ls' st' h) : z_J Z mL_rights R k n Q 465 ls st h := z_jr bL_rights_465 bL_rights_465_ok hr g
theorem dL_rights_466 : decode cL_rights 466 = .ok (.ireturn, 1) := by decide +kernel
theorem iL_rights_466 (hz : narrow .boolean (.int x) = .int x) (hk : k ≤ R.cells) (hs : n ≤ R.slots) (hq : Q (.inl (some (.int x))) h) : z_J Z mL_rights R k n Q 466 ls [.int x] h := z_iret (ty := .boolean) dL_rights_466 rfl hz hk hs hq
def bL_rights_467 : zB := [(467, .iload_n 1, 468, nI 0), (468, .iconst 3, 469, nI 3)]
theorem bL_rights_467_ok : z_ok cL_rights 467 bL_rights_467 469 = true := by decide +kernel
theorem iL_rights_467 (hr : z_run 13 bL_rights_467 ls st = some (ls', st')) (g : z_J Z mL_rights R k n Q 469 ls' st' h) : z_J Z mL_rights R k n Q 467 ls st h := z_jr bL_rights_467 bL_rights_467_ok hr g
theorem dL_rights_469 : decode cL_rights 469 = .ok (.if_icmp .ne 116, 3) := by decide +kernel
theorem iL_rights_469 (kt : ¬ x = y → z_J Z mL_rights R k n Q 585 ls st h) (kf : x = y → z_J Z mL_rights R k n Q 472 ls st h) : z_J Z mL_rights R k n Q 469 ls (.int y :: .int x :: st) h := z_ic_ne dL_rights_469 (tgt := 585) (by decide) rfl kt kf
def bL_rights_472 : zB := [(472, .aload 4, 474, nI 0), (474, .iload 7, 476, nI 0)]
theorem bL_rights_472_ok : z_ok cL_rights 472 bL_rights_472 476 = true := by decide +kernel
theorem iL_rights_472 (hr : z_run 13 bL_rights_472 ls st = some (ls', st')) (g : z_J Z mL_rights R k n Q 476 ls' st' h) : z_J Z mL_rights R k n Q 472 ls st h := z_jr bL_rights_472 bL_rights_472_ok hr g
theorem dL_rights_476 : decode cL_rights 476 = .ok (.iaload, 1) := by decide +kernel
theorem iL_rights_476 {f : Nat → Int32} (hh : h r = some (a, .inl (0, N, .inl f))) (hi : i = nI j) (hj : j < N) (hN : N < 2 ^ 31) (g : z_J Z mL_rights R k n Q 477 ls (.int (f j) :: st) h) : z_J Z mL_rights R k n Q 476 ls (.int i :: .ref a :: st) h := z_iald dL_rights_476 rfl hh hi hj hN g
def bL_rights_477 : zB := [(477, .iconst 5, 478, nI 5), (478, .ishr, 479, nI 0), (479, .bipush 15, 481, nI 15), (481, .iand, 482, nI 0), (482, .istore 9, 484, nI 0), (484, .aload_n 0, 485, nI 0), (485, .iload 7, 487, nI 0), (487, .iconst 0, 488, nI 0)]
theorem bL_rights_477_ok : z_ok cL_rights 477 bL_rights_477 488 = true := by decide +kernel
theorem iL_rights_477 (hr : z_run 13 bL_rights_477 ls st = some (ls', st')) (g : z_J Z mL_rights R k n Q 488 ls' st' h) : z_J Z mL_rights R k n Q 477 ls st h := z_jr bL_rights_477 bL_rights_477_ok hr g
theorem dL_rights_488 : decode cL_rights 488 = .ok (.invokestatic 93, 3) := by decide +kernel
theorem iL_rights_488 (ha : z_args 3 st [] = some (As, rest)) (hc : z_chk rest As 5 = true) (hR : z_rm R R' 5 k n) (gc : z_J Z mL_upgrade R' 0 0 Q' 0 As [] h) (kr : ∀ (v : Option Value) (h' : zH), Q' (.inl v) h' → z_J Z mL_rights R (k + R'.cells) (n + R'.slots) Q 491 ls (v.toList ++ rest) h') (kx : ∀ (E : String) (h' : zH), Q' (.inr E) h' → z_JX Z mL_rights R (k + R'.cells) (n + R'.slots) Q 488 ls E h') : z_J Z mL_rights R k n Q 488 ls st h := z_callS (M' := mL_upgrade) dL_rights_488 rfl cs_L_93 gw355 ha hR (z_chk1 hc) (z_chk2 hc) (z_chk3 hc) gc kr kx
def bL_rights_491 : zB := [(491, .bipush (-72), 493, -72)]
theorem bL_rights_491_ok : z_ok cL_rights 491 bL_rights_491 493 = true := by decide +kernel
theorem iL_rights_491 (hr : z_run 13 bL_rights_491 ls st = some (ls', st')) (g : z_J Z mL_rights R k n Q 493 ls' st' h) : z_J Z mL_rights R k n Q 491 ls st h := z_jr bL_rights_491 bL_rights_491_ok hr g
theorem dL_rights_493 : decode cL_rights 493 = .ok (.if_icmp .ne 29, 3) := by decide +kernel
theorem iL_rights_493 (kt : ¬ x = y → z_J Z mL_rights R k n Q 522 ls st h) (kf : x = y → z_J Z mL_rights R k n Q 496 ls st h) : z_J Z mL_rights R k n Q 493 ls (.int y :: .int x :: st) h := z_ic_ne dL_rights_493 (tgt := 522) (by decide) rfl kt kf
def bL_rights_496 : zB := [(496, .aload_n 0, 497, nI 0), (497, .iload 7, 499, nI 0), (499, .bipush 10, 501, nI 10)]
theorem bL_rights_496_ok : z_ok cL_rights 496 bL_rights_496 501 = true := by decide +kernel
theorem iL_rights_496 (hr : z_run 13 bL_rights_496 ls st = some (ls', st')) (g : z_J Z mL_rights R k n Q 501 ls' st' h) : z_J Z mL_rights R k n Q 496 ls st h := z_jr bL_rights_496 bL_rights_496_ok hr g
theorem dL_rights_501 : decode cL_rights 501 = .ok (.invokestatic 93, 3) := by decide +kernel
theorem iL_rights_501 (ha : z_args 3 st [] = some (As, rest)) (hc : z_chk rest As 5 = true) (hR : z_rm R R' 5 k n) (gc : z_J Z mL_upgrade R' 0 0 Q' 0 As [] h) (kr : ∀ (v : Option Value) (h' : zH), Q' (.inl v) h' → z_J Z mL_rights R (k + R'.cells) (n + R'.slots) Q 504 ls (v.toList ++ rest) h') (kx : ∀ (E : String) (h' : zH), Q' (.inr E) h' → z_JX Z mL_rights R (k + R'.cells) (n + R'.slots) Q 501 ls E h') : z_J Z mL_rights R k n Q 501 ls st h := z_callS (M' := mL_upgrade) dL_rights_501 rfl cs_L_93 gw355 ha hR (z_chk1 hc) (z_chk2 hc) (z_chk3 hc) gc kr kx
def bL_rights_504 : zB := [(504, .bipush (-72), 506, -72)]
theorem bL_rights_504_ok : z_ok cL_rights 504 bL_rights_504 506 = true := by decide +kernel
theorem iL_rights_504 (hr : z_run 13 bL_rights_504 ls st = some (ls', st')) (g : z_J Z mL_rights R k n Q 506 ls' st' h) : z_J Z mL_rights R k n Q 504 ls st h := z_jr bL_rights_504 bL_rights_504_ok hr g
theorem dL_rights_506 : decode cL_rights 506 = .ok (.if_icmp .ne 16, 3) := by decide +kernel
theorem iL_rights_506 (kt : ¬ x = y → z_J Z mL_rights R k n Q 522 ls st h) (kf : x = y → z_J Z mL_rights R k n Q 509 ls st h) : z_J Z mL_rights R k n Q 506 ls (.int y :: .int x :: st) h := z_ic_ne dL_rights_506 (tgt := 522) (by decide) rfl kt kf
def bL_rights_509 : zB := [(509, .aload_n 0, 510, nI 0), (510, .iload 7, 512, nI 0), (512, .iload 9, 514, nI 0)]
theorem bL_rights_509_ok : z_ok cL_rights 509 bL_rights_509 514 = true := by decide +kernel
theorem iL_rights_509 (hr : z_run 13 bL_rights_509 ls st = some (ls', st')) (g : z_J Z mL_rights R k n Q 514 ls' st' h) : z_J Z mL_rights R k n Q 509 ls st h := z_jr bL_rights_509 bL_rights_509_ok hr g
theorem dL_rights_514 : decode cL_rights 514 = .ok (.invokestatic 93, 3) := by decide +kernel
theorem iL_rights_514 (ha : z_args 3 st [] = some (As, rest)) (hc : z_chk rest As 5 = true) (hR : z_rm R R' 5 k n) (gc : z_J Z mL_upgrade R' 0 0 Q' 0 As [] h) (kr : ∀ (v : Option Value) (h' : zH), Q' (.inl v) h' → z_J Z mL_rights R (k + R'.cells) (n + R'.slots) Q 517 ls (v.toList ++ rest) h') (kx : ∀ (E : String) (h' : zH), Q' (.inr E) h' → z_JX Z mL_rights R (k + R'.cells) (n + R'.slots) Q 514 ls E h') : z_J Z mL_rights R k n Q 514 ls st h := z_callS (M' := mL_upgrade) dL_rights_514 rfl cs_L_93 gw355 ha hR (z_chk1 hc) (z_chk2 hc) (z_chk3 hc) gc kr kx
def bL_rights_517 : zB := [(517, .bipush (-73), 519, -73)]
theorem bL_rights_517_ok : z_ok cL_rights 517 bL_rights_517 519 = true := by decide +kernel
theorem iL_rights_517 (hr : z_run 13 bL_rights_517 ls st = some (ls', st')) (g : z_J Z mL_rights R k n Q 519 ls' st' h) : z_J Z mL_rights R k n Q 517 ls st h := z_jr bL_rights_517 bL_rights_517_ok hr g
theorem dL_rights_519 : decode cL_rights 519 = .ok (.if_icmp .eq 5, 3) := by decide +kernel
theorem iL_rights_519 (kt : x = y → z_J Z mL_rights R k n Q 524 ls st h) (kf : ¬ x = y → z_J Z mL_rights R k n Q 522 ls st h) : z_J Z mL_rights R k n Q 519 ls (.int y :: .int x :: st) h := z_ic_eq dL_rights_519 (tgt := 524) (by decide) rfl kt kf
def bL_rights_522 : zB := [(522, .iconst 0, 523, nI 0)]
theorem bL_rights_522_ok : z_ok cL_rights 522 bL_rights_522 523 = true := by decide +kernel
theorem iL_rights_522 (hr : z_run 13 bL_rights_522 ls st = some (ls', st')) (g : z_J Z mL_rights R k n Q 523 ls' st' h) : z_J Z mL_rights R k n Q 522 ls st h := z_jr bL_rights_522 bL_rights_522_ok hr g
theorem dL_rights_523 : decode cL_rights 523 = .ok (.ireturn, 1) := by decide +kernel
theorem iL_rights_523 (hz : narrow .boolean (.int x) = .int x) (hk : k ≤ R.cells) (hs : n ≤ R.slots) (hq : Q (.inl (some (.int x))) h) : z_J Z mL_rights R k n Q 523 ls [.int x] h := z_iret (ty := .boolean) dL_rights_523 rfl hz hk hs hq
def bL_rights_524 : zB := [(524, .iload 8, 526, nI 0), (526, .iload 9, 528, nI 0)]
theorem bL_rights_524_ok : z_ok cL_rights 524 bL_rights_524 528 = true := by decide +kernel
theorem iL_rights_524 (hr : z_run 13 bL_rights_524 ls st = some (ls', st')) (g : z_J Z mL_rights R k n Q 528 ls' st' h) : z_J Z mL_rights R k n Q 524 ls st h := z_jr bL_rights_524 bL_rights_524_ok hr g
theorem dL_rights_528 : decode cL_rights 528 = .ok (.if_icmp .gt 22, 3) := by decide +kernel
theorem iL_rights_528 (kt : y < x → z_J Z mL_rights R k n Q 550 ls st h) (kf : ¬ y < x → z_J Z mL_rights R k n Q 531 ls st h) : z_J Z mL_rights R k n Q 528 ls (.int y :: .int x :: st) h := z_ic_gt dL_rights_528 (tgt := 550) (by decide) rfl kt kf
def bL_rights_531 : zB := [(531, .aload_n 0, 532, nI 0), (532, .iload 7, 534, nI 0), (534, .iload 8, 536, nI 0)]
theorem bL_rights_531_ok : z_ok cL_rights 531 bL_rights_531 536 = true := by decide +kernel
theorem iL_rights_531 (hr : z_run 13 bL_rights_531 ls st = some (ls', st')) (g : z_J Z mL_rights R k n Q 536 ls' st' h) : z_J Z mL_rights R k n Q 531 ls st h := z_jr bL_rights_531 bL_rights_531_ok hr g
theorem dL_rights_536 : decode cL_rights 536 = .ok (.invokestatic 93, 3) := by decide +kernel
theorem iL_rights_536 (ha : z_args 3 st [] = some (As, rest)) (hc : z_chk rest As 5 = true) (hR : z_rm R R' 5 k n) (gc : z_J Z mL_upgrade R' 0 0 Q' 0 As [] h) (kr : ∀ (v : Option Value) (h' : zH), Q' (.inl v) h' → z_J Z mL_rights R (k + R'.cells) (n + R'.slots) Q 539 ls (v.toList ++ rest) h') (kx : ∀ (E : String) (h' : zH), Q' (.inr E) h' → z_JX Z mL_rights R (k + R'.cells) (n + R'.slots) Q 536 ls E h') : z_J Z mL_rights R k n Q 536 ls st h := z_callS (M' := mL_upgrade) dL_rights_536 rfl cs_L_93 gw355 ha hR (z_chk1 hc) (z_chk2 hc) (z_chk3 hc) gc kr kx
def bL_rights_539 : zB := [(539, .bipush (-73), 541, -73)]
theorem bL_rights_539_ok : z_ok cL_rights 539 bL_rights_539 541 = true := by decide +kernel
theorem iL_rights_539 (hr : z_run 13 bL_rights_539 ls st = some (ls', st')) (g : z_J Z mL_rights R k n Q 541 ls' st' h) : z_J Z mL_rights R k n Q 539 ls st h := z_jr bL_rights_539 bL_rights_539_ok hr g
theorem dL_rights_541 : decode cL_rights 541 = .ok (.if_icmp .ne 7, 3) := by decide +kernel
theorem iL_rights_541 (kt : ¬ x = y → z_J Z mL_rights R k n Q 548 ls st h) (kf : x = y → z_J Z mL_rights R k n Q 544 ls st h) : z_J Z mL_rights R k n Q 541 ls (.int y :: .int x :: st) h := z_ic_ne dL_rights_541 (tgt := 548) (by decide) rfl kt kf
def bL_rights_544 : zB := [(544, .iconst 1, 545, nI 1), (545, .goto 4, 549, nI 0)]
theorem bL_rights_544_ok : z_ok cL_rights 544 bL_rights_544 549 = true := by decide +kernel
theorem iL_rights_544 (hr : z_run 13 bL_rights_544 ls st = some (ls', st')) (g : z_J Z mL_rights R k n Q 549 ls' st' h) : z_J Z mL_rights R k n Q 544 ls st h := z_jr bL_rights_544 bL_rights_544_ok hr g
def bL_rights_548 : zB := [(548, .iconst 0, 549, nI 0)]
theorem bL_rights_548_ok : z_ok cL_rights 548 bL_rights_548 549 = true := by decide +kernel
theorem iL_rights_548 (hr : z_run 13 bL_rights_548 ls st = some (ls', st')) (g : z_J Z mL_rights R k n Q 549 ls' st' h) : z_J Z mL_rights R k n Q 548 ls st h := z_jr bL_rights_548 bL_rights_548_ok hr g
theorem dL_rights_549 : decode cL_rights 549 = .ok (.ireturn, 1) := by decide +kernel
theorem iL_rights_549 (hz : narrow .boolean (.int x) = .int x) (hk : k ≤ R.cells) (hs : n ≤ R.slots) (hq : Q (.inl (some (.int x))) h) : z_J Z mL_rights R k n Q 549 ls [.int x] h := z_iret (ty := .boolean) dL_rights_549 rfl hz hk hs hq
def bL_rights_550 : zB := [(550, .aload 4, 552, nI 0), (552, .iload 7, 554, nI 0), (554, .dup2, 555, nI 0)]
theorem bL_rights_550_ok : z_ok cL_rights 550 bL_rights_550 555 = true := by decide +kernel
theorem iL_rights_550 (hr : z_run 13 bL_rights_550 ls st = some (ls', st')) (g : z_J Z mL_rights R k n Q 555 ls' st' h) : z_J Z mL_rights R k n Q 550 ls st h := z_jr bL_rights_550 bL_rights_550_ok hr g
theorem dL_rights_555 : decode cL_rights 555 = .ok (.iaload, 1) := by decide +kernel
theorem iL_rights_555 {f : Nat → Int32} (hh : h r = some (a, .inl (0, N, .inl f))) (hi : i = nI j) (hj : j < N) (hN : N < 2 ^ 31) (g : z_J Z mL_rights R k n Q 556 ls (.int (f j) :: st) h) : z_J Z mL_rights R k n Q 555 ls (.int i :: .ref a :: st) h := z_iald dL_rights_555 rfl hh hi hj hN g
def bL_rights_556 : zB := [(556, .bipush 32, 558, nI 32), (558, .iload 8, 560, nI 0), (560, .iload 9, 562, nI 0), (562, .isub, 563, nI 0), (563, .imul, 564, nI 0), (564, .iadd, 565, nI 0)]
theorem bL_rights_556_ok : z_ok cL_rights 556 bL_rights_556 565 = true := by decide +kernel
theorem iL_rights_556 (hr : z_run 13 bL_rights_556 ls st = some (ls', st')) (g : z_J Z mL_rights R k n Q 565 ls' st' h) : z_J Z mL_rights R k n Q 556 ls st h := z_jr bL_rights_556 bL_rights_556_ok hr g
theorem dL_rights_565 : decode cL_rights 565 = .ok (.iastore, 1) := by decide +kernel
theorem iL_rights_565 {f : Nat → Int32} (hh : h r = some (a, .inl (0, N, .inl f))) (hi : i = nI j) (hj : j < N) (hN : N < 2 ^ 31) (g : z_J Z mL_rights R k n Q 566 ls st (z_u h r (a, .inl (0, N, .inl (upd f j x))))) : z_J Z mL_rights R k n Q 565 ls (.int x :: .int i :: .ref a :: st) h := z_iast dL_rights_565 rfl hh hi hj hN g
def bL_rights_566 : zB := [(566, .aload_n 0, 567, nI 0), (567, .iload 7, 569, nI 0), (569, .iload 8, 571, nI 0)]
theorem bL_rights_566_ok : z_ok cL_rights 566 bL_rights_566 571 = true := by decide +kernel
theorem iL_rights_566 (hr : z_run 13 bL_rights_566 ls st = some (ls', st')) (g : z_J Z mL_rights R k n Q 571 ls' st' h) : z_J Z mL_rights R k n Q 566 ls st h := z_jr bL_rights_566 bL_rights_566_ok hr g
theorem dL_rights_571 : decode cL_rights 571 = .ok (.invokestatic 93, 3) := by decide +kernel
theorem iL_rights_571 (ha : z_args 3 st [] = some (As, rest)) (hc : z_chk rest As 5 = true) (hR : z_rm R R' 5 k n) (gc : z_J Z mL_upgrade R' 0 0 Q' 0 As [] h) (kr : ∀ (v : Option Value) (h' : zH), Q' (.inl v) h' → z_J Z mL_rights R (k + R'.cells) (n + R'.slots) Q 574 ls (v.toList ++ rest) h') (kx : ∀ (E : String) (h' : zH), Q' (.inr E) h' → z_JX Z mL_rights R (k + R'.cells) (n + R'.slots) Q 571 ls E h') : z_J Z mL_rights R k n Q 571 ls st h := z_callS (M' := mL_upgrade) dL_rights_571 rfl cs_L_93 gw355 ha hR (z_chk1 hc) (z_chk2 hc) (z_chk3 hc) gc kr kx
def bL_rights_574 : zB := [(574, .iload 9, 576, nI 0)]
theorem bL_rights_574_ok : z_ok cL_rights 574 bL_rights_574 576 = true := by decide +kernel
theorem iL_rights_574 (hr : z_run 13 bL_rights_574 ls st = some (ls', st')) (g : z_J Z mL_rights R k n Q 576 ls' st' h) : z_J Z mL_rights R k n Q 574 ls st h := z_jr bL_rights_574 bL_rights_574_ok hr g
theorem dL_rights_576 : decode cL_rights 576 = .ok (.if_icmp .ne 7, 3) := by decide +kernel
theorem iL_rights_576 (kt : ¬ x = y → z_J Z mL_rights R k n Q 583 ls st h) (kf : x = y → z_J Z mL_rights R k n Q 579 ls st h) : z_J Z mL_rights R k n Q 576 ls (.int y :: .int x :: st) h := z_ic_ne dL_rights_576 (tgt := 583) (by decide) rfl kt kf
def bL_rights_579 : zB := [(579, .iconst 1, 580, nI 1), (580, .goto 4, 584, nI 0)]
theorem bL_rights_579_ok : z_ok cL_rights 579 bL_rights_579 584 = true := by decide +kernel
theorem iL_rights_579 (hr : z_run 13 bL_rights_579 ls st = some (ls', st')) (g : z_J Z mL_rights R k n Q 584 ls' st' h) : z_J Z mL_rights R k n Q 579 ls st h := z_jr bL_rights_579 bL_rights_579_ok hr g
def bL_rights_583 : zB := [(583, .iconst 0, 584, nI 0)]
theorem bL_rights_583_ok : z_ok cL_rights 583 bL_rights_583 584 = true := by decide +kernel
theorem iL_rights_583 (hr : z_run 13 bL_rights_583 ls st = some (ls', st')) (g : z_J Z mL_rights R k n Q 584 ls' st' h) : z_J Z mL_rights R k n Q 583 ls st h := z_jr bL_rights_583 bL_rights_583_ok hr g
theorem dL_rights_584 : decode cL_rights 584 = .ok (.ireturn, 1) := by decide +kernel
theorem iL_rights_584 (hz : narrow .boolean (.int x) = .int x) (hk : k ≤ R.cells) (hs : n ≤ R.slots) (hq : Q (.inl (some (.int x))) h) : z_J Z mL_rights R k n Q 584 ls [.int x] h := z_iret (ty := .boolean) dL_rights_584 rfl hz hk hs hq
def bL_rights_585 : zB := [(585, .aload 4, 587, nI 0), (587, .iload 7, 589, nI 0)]
theorem bL_rights_585_ok : z_ok cL_rights 585 bL_rights_585 589 = true := by decide +kernel
theorem iL_rights_585 (hr : z_run 13 bL_rights_585 ls st = some (ls', st')) (g : z_J Z mL_rights R k n Q 589 ls' st' h) : z_J Z mL_rights R k n Q 585 ls st h := z_jr bL_rights_585 bL_rights_585_ok hr g
theorem dL_rights_589 : decode cL_rights 589 = .ok (.iaload, 1) := by decide +kernel
theorem iL_rights_589 {f : Nat → Int32} (hh : h r = some (a, .inl (0, N, .inl f))) (hi : i = nI j) (hj : j < N) (hN : N < 2 ^ 31) (g : z_J Z mL_rights R k n Q 590 ls (.int (f j) :: st) h) : z_J Z mL_rights R k n Q 589 ls (.int i :: .ref a :: st) h := z_iald dL_rights_589 rfl hh hi hj hN g
def bL_rights_590 : zB := [(590, .bipush 9, 592, nI 9), (592, .ishr, 593, nI 0), (593, .istore 9, 595, nI 0), (595, .iload_n 3, 596, nI 0), (596, .iload_n 3, 597, nI 0), (597, .bipush 96, 599, nI 96), (599, .iand, 600, nI 0)]
theorem bL_rights_590_ok : z_ok cL_rights 590 bL_rights_590 600 = true := by decide +kernel
theorem iL_rights_590 (hr : z_run 13 bL_rights_590 ls st = some (ls', st')) (g : z_J Z mL_rights R k n Q 600 ls' st' h) : z_J Z mL_rights R k n Q 590 ls st h := z_jr bL_rights_590 bL_rights_590_ok hr g
theorem dL_rights_600 : decode cL_rights 600 = .ok (.ifCond .ne 8, 3) := by decide +kernel
theorem iL_rights_600 (kt : ¬ x = 0 → z_J Z mL_rights R k n Q 608 ls st h) (kf : x = 0 → z_J Z mL_rights R k n Q 603 ls st h) : z_J Z mL_rights R k n Q 600 ls (.int x :: st) h := z_if_ne dL_rights_600 (tgt := 608) (by decide) rfl kt kf
def bL_rights_603 : zB := [(603, .bipush 101, 605, nI 101), (605, .goto 5, 610, nI 0)]
theorem bL_rights_603_ok : z_ok cL_rights 603 bL_rights_603 610 = true := by decide +kernel
theorem iL_rights_603 (hr : z_run 13 bL_rights_603 ls st = some (ls', st')) (g : z_J Z mL_rights R k n Q 610 ls' st' h) : z_J Z mL_rights R k n Q 603 ls st h := z_jr bL_rights_603 bL_rights_603_ok hr g
def bL_rights_608 : zB := [(608, .bipush 10, 610, nI 10)]
theorem bL_rights_608_ok : z_ok cL_rights 608 bL_rights_608 610 = true := by decide +kernel
theorem iL_rights_608 (hr : z_run 13 bL_rights_608 ls st = some (ls', st')) (g : z_J Z mL_rights R k n Q 610 ls' st' h) : z_J Z mL_rights R k n Q 608 ls st h := z_jr bL_rights_608 bL_rights_608_ok hr g
theorem dL_rights_610 : decode cL_rights 610 = .ok (.invokestatic 87, 3) := by decide +kernel
theorem iL_rights_610 (ha : z_args 2 st [] = some (As, rest)) (hc : z_chk rest As 2 = true) (hR : z_rm R R' 2 k n) (gc : z_J Z mL_low R' 0 0 Q' 0 As [] h) (kr : ∀ (v : Option Value) (h' : zH), Q' (.inl v) h' → z_J Z mL_rights R (k + R'.cells) (n + R'.slots) Q 613 ls (v.toList ++ rest) h') (kx : ∀ (E : String) (h' : zH), Q' (.inr E) h' → z_JX Z mL_rights R (k + R'.cells) (n + R'.slots) Q 610 ls E h') : z_J Z mL_rights R k n Q 610 ls st h := z_callS (M' := mL_low) dL_rights_610 rfl cs_L_87 gw168 ha hR (z_chk1 hc) (z_chk2 hc) (z_chk3 hc) gc kr kx
def bL_rights_613 : zB := [(613, .istore 10, 615, nI 0), (615, .aload 4, 617, nI 0), (617, .iload 7, 619, nI 0), (619, .dup2, 620, nI 0)]
theorem bL_rights_613_ok : z_ok cL_rights 613 bL_rights_613 620 = true := by decide +kernel
theorem iL_rights_613 (hr : z_run 13 bL_rights_613 ls st = some (ls', st')) (g : z_J Z mL_rights R k n Q 620 ls' st' h) : z_J Z mL_rights R k n Q 613 ls st h := z_jr bL_rights_613 bL_rights_613_ok hr g
theorem dL_rights_620 : decode cL_rights 620 = .ok (.iaload, 1) := by decide +kernel
theorem iL_rights_620 {f : Nat → Int32} (hh : h r = some (a, .inl (0, N, .inl f))) (hi : i = nI j) (hj : j < N) (hN : N < 2 ^ 31) (g : z_J Z mL_rights R k n Q 621 ls (.int (f j) :: st) h) : z_J Z mL_rights R k n Q 620 ls (.int i :: .ref a :: st) h := z_iald dL_rights_620 rfl hh hi hj hN g
def bL_rights_621 : zB := [(621, .sipush 512, 624, nI 512), (624, .iload 10, 626, nI 0), (626, .iload 9, 628, nI 0), (628, .isub, 629, nI 0), (629, .imul, 630, nI 0), (630, .iadd, 631, nI 0)]
theorem bL_rights_621_ok : z_ok cL_rights 621 bL_rights_621 631 = true := by decide +kernel
theorem iL_rights_621 (hr : z_run 13 bL_rights_621 ls st = some (ls', st')) (g : z_J Z mL_rights R k n Q 631 ls' st' h) : z_J Z mL_rights R k n Q 621 ls st h := z_jr bL_rights_621 bL_rights_621_ok hr g
theorem dL_rights_631 : decode cL_rights 631 = .ok (.iastore, 1) := by decide +kernel
theorem iL_rights_631 {f : Nat → Int32} (hh : h r = some (a, .inl (0, N, .inl f))) (hi : i = nI j) (hj : j < N) (hN : N < 2 ^ 31) (g : z_J Z mL_rights R k n Q 632 ls st (z_u h r (a, .inl (0, N, .inl (upd f j x))))) : z_J Z mL_rights R k n Q 631 ls (.int x :: .int i :: .ref a :: st) h := z_iast dL_rights_631 rfl hh hi hj hN g
def bL_rights_632 : zB := [(632, .aload_n 0, 633, nI 0), (633, .iload 7, 635, nI 0), (635, .iconst (-1), 636, -1)]
theorem bL_rights_632_ok : z_ok cL_rights 632 bL_rights_632 636 = true := by decide +kernel
theorem iL_rights_632 (hr : z_run 13 bL_rights_632 ls st = some (ls', st')) (g : z_J Z mL_rights R k n Q 636 ls' st' h) : z_J Z mL_rights R k n Q 632 ls st h := z_jr bL_rights_632 bL_rights_632_ok hr g
theorem dL_rights_636 : decode cL_rights 636 = .ok (.invokestatic 96, 3) := by decide +kernel
theorem iL_rights_636 (ha : z_args 3 st [] = some (As, rest)) (hc : z_chk rest As 5 = true) (hR : z_rm R R' 5 k n) (gc : z_J Z mL_setUnits R' 0 0 Q' 0 As [] h) (kr : ∀ (v : Option Value) (h' : zH), Q' (.inl v) h' → z_J Z mL_rights R (k + R'.cells) (n + R'.slots) Q 639 ls (v.toList ++ rest) h') (kx : ∀ (E : String) (h' : zH), Q' (.inr E) h' → z_JX Z mL_rights R (k + R'.cells) (n + R'.slots) Q 636 ls E h') : z_J Z mL_rights R k n Q 636 ls st h := z_callS (M' := mL_setUnits) dL_rights_636 rfl cs_L_96 gw398 ha hR (z_chk1 hc) (z_chk2 hc) (z_chk3 hc) gc kr kx
def bL_rights_639 : zB := [(639, .bipush (-72), 641, -72)]
theorem bL_rights_639_ok : z_ok cL_rights 639 bL_rights_639 641 = true := by decide +kernel
theorem iL_rights_639 (hr : z_run 13 bL_rights_639 ls st = some (ls', st')) (g : z_J Z mL_rights R k n Q 641 ls' st' h) : z_J Z mL_rights R k n Q 639 ls st h := z_jr bL_rights_639 bL_rights_639_ok hr g
theorem dL_rights_641 : decode cL_rights 641 = .ok (.if_icmp .ne 33, 3) := by decide +kernel
theorem iL_rights_641 (kt : ¬ x = y → z_J Z mL_rights R k n Q 674 ls st h) (kf : x = y → z_J Z mL_rights R k n Q 644 ls st h) : z_J Z mL_rights R k n Q 641 ls (.int y :: .int x :: st) h := z_ic_ne dL_rights_641 (tgt := 674) (by decide) rfl kt kf
def bL_rights_644 : zB := [(644, .aload_n 0, 645, nI 0), (645, .iload 7, 647, nI 0), (647, .bipush 101, 649, nI 101)]
theorem bL_rights_644_ok : z_ok cL_rights 644 bL_rights_644 649 = true := by decide +kernel
theorem iL_rights_644 (hr : z_run 13 bL_rights_644 ls st = some (ls', st')) (g : z_J Z mL_rights R k n Q 649 ls' st' h) : z_J Z mL_rights R k n Q 644 ls st h := z_jr bL_rights_644 bL_rights_644_ok hr g
theorem dL_rights_649 : decode cL_rights 649 = .ok (.invokestatic 96, 3) := by decide +kernel
theorem iL_rights_649 (ha : z_args 3 st [] = some (As, rest)) (hc : z_chk rest As 5 = true) (hR : z_rm R R' 5 k n) (gc : z_J Z mL_setUnits R' 0 0 Q' 0 As [] h) (kr : ∀ (v : Option Value) (h' : zH), Q' (.inl v) h' → z_J Z mL_rights R (k + R'.cells) (n + R'.slots) Q 652 ls (v.toList ++ rest) h') (kx : ∀ (E : String) (h' : zH), Q' (.inr E) h' → z_JX Z mL_rights R (k + R'.cells) (n + R'.slots) Q 649 ls E h') : z_J Z mL_rights R k n Q 649 ls st h := z_callS (M' := mL_setUnits) dL_rights_649 rfl cs_L_96 gw398 ha hR (z_chk1 hc) (z_chk2 hc) (z_chk3 hc) gc kr kx
def bL_rights_652 : zB := [(652, .bipush (-72), 654, -72)]
theorem bL_rights_652_ok : z_ok cL_rights 652 bL_rights_652 654 = true := by decide +kernel
theorem iL_rights_652 (hr : z_run 13 bL_rights_652 ls st = some (ls', st')) (g : z_J Z mL_rights R k n Q 654 ls' st' h) : z_J Z mL_rights R k n Q 652 ls st h := z_jr bL_rights_652 bL_rights_652_ok hr g
theorem dL_rights_654 : decode cL_rights 654 = .ok (.if_icmp .ne 20, 3) := by decide +kernel
theorem iL_rights_654 (kt : ¬ x = y → z_J Z mL_rights R k n Q 674 ls st h) (kf : x = y → z_J Z mL_rights R k n Q 657 ls st h) : z_J Z mL_rights R k n Q 654 ls (.int y :: .int x :: st) h := z_ic_ne dL_rights_654 (tgt := 674) (by decide) rfl kt kf
def bL_rights_657 : zB := [(657, .aload_n 0, 658, nI 0), (658, .iload 7, 660, nI 0), (660, .iload 10, 662, nI 0)]
theorem bL_rights_657_ok : z_ok cL_rights 657 bL_rights_657 662 = true := by decide +kernel
theorem iL_rights_657 (hr : z_run 13 bL_rights_657 ls st = some (ls', st')) (g : z_J Z mL_rights R k n Q 662 ls' st' h) : z_J Z mL_rights R k n Q 657 ls st h := z_jr bL_rights_657 bL_rights_657_ok hr g
theorem dL_rights_662 : decode cL_rights 662 = .ok (.invokestatic 96, 3) := by decide +kernel
theorem iL_rights_662 (ha : z_args 3 st [] = some (As, rest)) (hc : z_chk rest As 5 = true) (hR : z_rm R R' 5 k n) (gc : z_J Z mL_setUnits R' 0 0 Q' 0 As [] h) (kr : ∀ (v : Option Value) (h' : zH), Q' (.inl v) h' → z_J Z mL_rights R (k + R'.cells) (n + R'.slots) Q 665 ls (v.toList ++ rest) h') (kx : ∀ (E : String) (h' : zH), Q' (.inr E) h' → z_JX Z mL_rights R (k + R'.cells) (n + R'.slots) Q 662 ls E h') : z_J Z mL_rights R k n Q 662 ls st h := z_callS (M' := mL_setUnits) dL_rights_662 rfl cs_L_96 gw398 ha hR (z_chk1 hc) (z_chk2 hc) (z_chk3 hc) gc kr kx
def bL_rights_665 : zB := [(665, .iload 9, 667, nI 0)]
theorem bL_rights_665_ok : z_ok cL_rights 665 bL_rights_665 667 = true := by decide +kernel
theorem iL_rights_665 (hr : z_run 13 bL_rights_665 ls st = some (ls', st')) (g : z_J Z mL_rights R k n Q 667 ls' st' h) : z_J Z mL_rights R k n Q 665 ls st h := z_jr bL_rights_665 bL_rights_665_ok hr g
theorem dL_rights_667 : decode cL_rights 667 = .ok (.if_icmp .ne 7, 3) := by decide +kernel
theorem iL_rights_667 (kt : ¬ x = y → z_J Z mL_rights R k n Q 674 ls st h) (kf : x = y → z_J Z mL_rights R k n Q 670 ls st h) : z_J Z mL_rights R k n Q 667 ls (.int y :: .int x :: st) h := z_ic_ne dL_rights_667 (tgt := 674) (by decide) rfl kt kf
def bL_rights_670 : zB := [(670, .iconst 1, 671, nI 1), (671, .goto 4, 675, nI 0)]
theorem bL_rights_670_ok : z_ok cL_rights 670 bL_rights_670 675 = true := by decide +kernel
theorem iL_rights_670 (hr : z_run 13 bL_rights_670 ls st = some (ls', st')) (g : z_J Z mL_rights R k n Q 675 ls' st' h) : z_J Z mL_rights R k n Q 670 ls st h := z_jr bL_rights_670 bL_rights_670_ok hr g
def bL_rights_674 : zB := [(674, .iconst 0, 675, nI 0)]
theorem bL_rights_674_ok : z_ok cL_rights 674 bL_rights_674 675 = true := by decide +kernel
theorem iL_rights_674 (hr : z_run 13 bL_rights_674 ls st = some (ls', st')) (g : z_J Z mL_rights R k n Q 675 ls' st' h) : z_J Z mL_rights R k n Q 674 ls st h := z_jr bL_rights_674 bL_rights_674_ok hr g
theorem dL_rights_675 : decode cL_rights 675 = .ok (.ireturn, 1) := by decide +kernel
theorem iL_rights_675 (hz : narrow .boolean (.int x) = .int x) (hk : k ≤ R.cells) (hs : n ≤ R.slots) (hq : Q (.inl (some (.int x))) h) : z_J Z mL_rights R k n Q 675 ls [.int x] h := z_iret (ty := .boolean) dL_rights_675 rfl hz hk hs hq
/-! L_machines -/
def bL_machines_0 : zB := [(0, .iload_n 2, 1, nI 0), (1, .aload 8, 3, nI 0), (3, .iconst 1, 4, nI 1)]
theorem bL_machines_0_ok : z_ok cL_machines 0 bL_machines_0 4 = true := by decide +kernel
theorem iL_machines_0 (hr : z_run 18 bL_machines_0 ls st = some (ls', st')) (g : z_J Z mL_machines R k n Q 4 ls' st' h) : z_J Z mL_machines R k n Q 0 ls st h := z_jr bL_machines_0 bL_machines_0_ok hr g
theorem dL_machines_4 : decode cL_machines 4 = .ok (.iaload, 1) := by decide +kernel
theorem iL_machines_4 {f : Nat → Int32} (hh : h r = some (a, .inl (0, N, .inl f))) (hi : i = nI j) (hj : j < N) (hN : N < 2 ^ 31) (g : z_J Z mL_machines R k n Q 5 ls (.int (f j) :: st) h) : z_J Z mL_machines R k n Q 4 ls (.int i :: .ref a :: st) h := z_iald dL_machines_4 rfl hh hi hj hN g
def bL_machines_5 : zB := [(5, .iconst 1, 6, nI 1), (6, .iadd, 7, nI 0)]
theorem bL_machines_5_ok : z_ok cL_machines 5 bL_machines_5 7 = true := by decide +kernel
theorem iL_machines_5 (hr : z_run 18 bL_machines_5 ls st = some (ls', st')) (g : z_J Z mL_machines R k n Q 7 ls' st' h) : z_J Z mL_machines R k n Q 5 ls st h := z_jr bL_machines_5 bL_machines_5_ok hr g
theorem dL_machines_7 : decode cL_machines 7 = .ok (.invokestatic 87, 3) := by decide +kernel
theorem iL_machines_7 (ha : z_args 2 st [] = some (As, rest)) (hc : z_chk rest As 2 = true) (hR : z_rm R R' 2 k n) (gc : z_J Z mL_low R' 0 0 Q' 0 As [] h) (kr : ∀ (v : Option Value) (h' : zH), Q' (.inl v) h' → z_J Z mL_machines R (k + R'.cells) (n + R'.slots) Q 10 ls (v.toList ++ rest) h') (kx : ∀ (E : String) (h' : zH), Q' (.inr E) h' → z_JX Z mL_machines R (k + R'.cells) (n + R'.slots) Q 7 ls E h') : z_J Z mL_machines R k n Q 7 ls st h := z_callS (M' := mL_low) dL_machines_7 rfl cs_L_87 gw168 ha hR (z_chk1 hc) (z_chk2 hc) (z_chk3 hc) gc kr kx
def bL_machines_10 : zB := [(10, .istore 9, 12, nI 0), (12, .iconst 1, 13, nI 1), (13, .iload_n 3, 14, nI 0), (14, .bipush 64, 16, nI 64)]
theorem bL_machines_10_ok : z_ok cL_machines 10 bL_machines_10 16 = true := by decide +kernel
theorem iL_machines_10 (hr : z_run 18 bL_machines_10 ls st = some (ls', st')) (g : z_J Z mL_machines R k n Q 16 ls' st' h) : z_J Z mL_machines R k n Q 10 ls st h := z_jr bL_machines_10 bL_machines_10_ok hr g
theorem dL_machines_16 : decode cL_machines 16 = .ok (.invokestatic 87, 3) := by decide +kernel
theorem iL_machines_16 (ha : z_args 2 st [] = some (As, rest)) (hc : z_chk rest As 2 = true) (hR : z_rm R R' 2 k n) (gc : z_J Z mL_low R' 0 0 Q' 0 As [] h) (kr : ∀ (v : Option Value) (h' : zH), Q' (.inl v) h' → z_J Z mL_machines R (k + R'.cells) (n + R'.slots) Q 19 ls (v.toList ++ rest) h') (kx : ∀ (E : String) (h' : zH), Q' (.inr E) h' → z_JX Z mL_machines R (k + R'.cells) (n + R'.slots) Q 16 ls E h') : z_J Z mL_machines R k n Q 16 ls st h := z_callS (M' := mL_low) dL_machines_16 rfl cs_L_87 gw168 ha hR (z_chk1 hc) (z_chk2 hc) (z_chk3 hc) gc kr kx
def bL_machines_19 : zB := [(19, .iadd, 20, nI 0), (20, .istore 10, 22, nI 0), (22, .iload_n 1, 23, nI 0)]
theorem bL_machines_19_ok : z_ok cL_machines 19 bL_machines_19 23 = true := by decide +kernel
theorem iL_machines_19 (hr : z_run 18 bL_machines_19 ls st = some (ls', st')) (g : z_J Z mL_machines R k n Q 23 ls' st' h) : z_J Z mL_machines R k n Q 19 ls st h := z_jr bL_machines_19 bL_machines_19_ok hr g
theorem dL_machines_23 : decode cL_machines 23 = .ok (.ifCond .ne 158, 3) := by decide +kernel
theorem iL_machines_23 (kt : ¬ x = 0 → z_J Z mL_machines R k n Q 181 ls st h) (kf : x = 0 → z_J Z mL_machines R k n Q 26 ls st h) : z_J Z mL_machines R k n Q 23 ls (.int x :: st) h := z_if_ne dL_machines_23 (tgt := 181) (by decide) rfl kt kf
def bL_machines_26 : zB := [(26, .aload 8, 28, nI 0), (28, .iconst 1, 29, nI 1)]
theorem bL_machines_26_ok : z_ok cL_machines 26 bL_machines_26 29 = true := by decide +kernel
theorem iL_machines_26 (hr : z_run 18 bL_machines_26 ls st = some (ls', st')) (g : z_J Z mL_machines R k n Q 29 ls' st' h) : z_J Z mL_machines R k n Q 26 ls st h := z_jr bL_machines_26 bL_machines_26_ok hr g
theorem dL_machines_29 : decode cL_machines 29 = .ok (.iaload, 1) := by decide +kernel
theorem iL_machines_29 {f : Nat → Int32} (hh : h r = some (a, .inl (0, N, .inl f))) (hi : i = nI j) (hj : j < N) (hN : N < 2 ^ 31) (g : z_J Z mL_machines R k n Q 30 ls (.int (f j) :: st) h) : z_J Z mL_machines R k n Q 29 ls (.int i :: .ref a :: st) h := z_iald dL_machines_29 rfl hh hi hj hN g
theorem dL_machines_30 : decode cL_machines 30 = .ok (.ifCond .eq 10, 3) := by decide +kernel
theorem iL_machines_30 (kt : x = 0 → z_J Z mL_machines R k n Q 40 ls st h) (kf : ¬ x = 0 → z_J Z mL_machines R k n Q 33 ls st h) : z_J Z mL_machines R k n Q 30 ls (.int x :: st) h := z_if_eq dL_machines_30 (tgt := 40) (by decide) rfl kt kf
def bL_machines_33 : zB := [(33, .iload_n 2, 34, nI 0), (34, .bipush 6, 36, nI 6), (36, .iand, 37, nI 0)]
theorem bL_machines_33_ok : z_ok cL_machines 33 bL_machines_33 37 = true := by decide +kernel
theorem iL_machines_33 (hr : z_run 18 bL_machines_33 ls st = some (ls', st')) (g : z_J Z mL_machines R k n Q 37 ls' st' h) : z_J Z mL_machines R k n Q 33 ls st h := z_jr bL_machines_33 bL_machines_33_ok hr g
theorem dL_machines_37 : decode cL_machines 37 = .ok (.ifCond .ne 7, 3) := by decide +kernel
theorem iL_machines_37 (kt : ¬ x = 0 → z_J Z mL_machines R k n Q 44 ls st h) (kf : x = 0 → z_J Z mL_machines R k n Q 40 ls st h) : z_J Z mL_machines R k n Q 37 ls (.int x :: st) h := z_if_ne dL_machines_37 (tgt := 44) (by decide) rfl kt kf
def bL_machines_40 : zB := [(40, .iconst (-1), 41, -1), (41, .goto 13, 54, nI 0)]
theorem bL_machines_40_ok : z_ok cL_machines 40 bL_machines_40 54 = true := by decide +kernel
theorem iL_machines_40 (hr : z_run 18 bL_machines_40 ls st = some (ls', st')) (g : z_J Z mL_machines R k n Q 54 ls' st' h) : z_J Z mL_machines R k n Q 40 ls st h := z_jr bL_machines_40 bL_machines_40_ok hr g
def bL_machines_44 : zB := [(44, .iload_n 2, 45, nI 0), (45, .iconst 3, 46, nI 3), (46, .ishr, 47, nI 0), (47, .aload 8, 49, nI 0), (49, .iconst 1, 50, nI 1)]
theorem bL_machines_44_ok : z_ok cL_machines 44 bL_machines_44 50 = true := by decide +kernel
theorem iL_machines_44 (hr : z_run 18 bL_machines_44 ls st = some (ls', st')) (g : z_J Z mL_machines R k n Q 50 ls' st' h) : z_J Z mL_machines R k n Q 44 ls st h := z_jr bL_machines_44 bL_machines_44_ok hr g
theorem dL_machines_50 : decode cL_machines 50 = .ok (.iaload, 1) := by decide +kernel
theorem iL_machines_50 {f : Nat → Int32} (hh : h r = some (a, .inl (0, N, .inl f))) (hi : i = nI j) (hj : j < N) (hN : N < 2 ^ 31) (g : z_J Z mL_machines R k n Q 51 ls (.int (f j) :: st) h) : z_J Z mL_machines R k n Q 50 ls (.int i :: .ref a :: st) h := z_iald dL_machines_50 rfl hh hi hj hN g
theorem dL_machines_51 : decode cL_machines 51 = .ok (.invokestatic 87, 3) := by decide +kernel
theorem iL_machines_51 (ha : z_args 2 st [] = some (As, rest)) (hc : z_chk rest As 2 = true) (hR : z_rm R R' 2 k n) (gc : z_J Z mL_low R' 0 0 Q' 0 As [] h) (kr : ∀ (v : Option Value) (h' : zH), Q' (.inl v) h' → z_J Z mL_machines R (k + R'.cells) (n + R'.slots) Q 54 ls (v.toList ++ rest) h') (kx : ∀ (E : String) (h' : zH), Q' (.inr E) h' → z_JX Z mL_machines R (k + R'.cells) (n + R'.slots) Q 51 ls E h') : z_J Z mL_machines R k n Q 51 ls st h := z_callS (M' := mL_low) dL_machines_51 rfl cs_L_87 gw168 ha hR (z_chk1 hc) (z_chk2 hc) (z_chk3 hc) gc kr kx
def bL_machines_54 : zB := [(54, .istore 11, 56, nI 0), (56, .aload_n 0, 57, nI 0), (57, .iload 10, 59, nI 0), (59, .aload 8, 61, nI 0), (61, .iconst 1, 62, nI 1)]
theorem bL_machines_54_ok : z_ok cL_machines 54 bL_machines_54 62 = true := by decide +kernel
theorem iL_machines_54 (hr : z_run 18 bL_machines_54 ls st = some (ls', st')) (g : z_J Z mL_machines R k n Q 62 ls' st' h) : z_J Z mL_machines R k n Q 54 ls st h := z_jr bL_machines_54 bL_machines_54_ok hr g
theorem dL_machines_62 : decode cL_machines 62 = .ok (.iaload, 1) := by decide +kernel
theorem iL_machines_62 {f : Nat → Int32} (hh : h r = some (a, .inl (0, N, .inl f))) (hi : i = nI j) (hj : j < N) (hN : N < 2 ^ 31) (g : z_J Z mL_machines R k n Q 63 ls (.int (f j) :: st) h) : z_J Z mL_machines R k n Q 62 ls (.int i :: .ref a :: st) h := z_iald dL_machines_62 rfl hh hi hj hN g
theorem dL_machines_63 : decode cL_machines 63 = .ok (.invokestatic 98, 3) := by decide +kernel
theorem iL_machines_63 (ha : z_args 3 st [] = some (As, rest)) (hc : z_chk rest As 5 = true) (hR : z_rm R R' 5 k n) (gc : z_J Z mL_addMachine R' 0 0 Q' 0 As [] h) (kr : ∀ (v : Option Value) (h' : zH), Q' (.inl v) h' → z_J Z mL_machines R (k + R'.cells) (n + R'.slots) Q 66 ls (v.toList ++ rest) h') (kx : ∀ (E : String) (h' : zH), Q' (.inr E) h' → z_JX Z mL_machines R (k + R'.cells) (n + R'.slots) Q 63 ls E h') : z_J Z mL_machines R k n Q 63 ls st h := z_callS (M' := mL_addMachine) dL_machines_63 rfl cs_L_98 gw408 ha hR (z_chk1 hc) (z_chk2 hc) (z_chk3 hc) gc kr kx
def bL_machines_66 : zB := [(66, .bipush (-71), 68, -71)]
theorem bL_machines_66_ok : z_ok cL_machines 66 bL_machines_66 68 = true := by decide +kernel
theorem iL_machines_66 (hr : z_run 18 bL_machines_66 ls st = some (ls', st')) (g : z_J Z mL_machines R k n Q 68 ls' st' h) : z_J Z mL_machines R k n Q 66 ls st h := z_jr bL_machines_66 bL_machines_66_ok hr g
theorem dL_machines_68 : decode cL_machines 68 = .ok (.if_icmp .ne 40, 3) := by decide +kernel
theorem iL_machines_68 (kt : ¬ x = y → z_J Z mL_machines R k n Q 108 ls st h) (kf : x = y → z_J Z mL_machines R k n Q 71 ls st h) : z_J Z mL_machines R k n Q 68 ls (.int y :: .int x :: st) h := z_ic_ne dL_machines_68 (tgt := 108) (by decide) rfl kt kf
def bL_machines_71 : zB := [(71, .aload_n 0, 72, nI 0), (72, .iconst 0, 73, nI 0), (73, .bipush (-2), 75, -2)]
theorem bL_machines_71_ok : z_ok cL_machines 71 bL_machines_71 75 = true := by decide +kernel
theorem iL_machines_71 (hr : z_run 18 bL_machines_71 ls st = some (ls', st')) (g : z_J Z mL_machines R k n Q 75 ls' st' h) : z_J Z mL_machines R k n Q 71 ls st h := z_jr bL_machines_71 bL_machines_71_ok hr g
theorem dL_machines_75 : decode cL_machines 75 = .ok (.invokestatic 98, 3) := by decide +kernel
theorem iL_machines_75 (ha : z_args 3 st [] = some (As, rest)) (hc : z_chk rest As 5 = true) (hR : z_rm R R' 5 k n) (gc : z_J Z mL_addMachine R' 0 0 Q' 0 As [] h) (kr : ∀ (v : Option Value) (h' : zH), Q' (.inl v) h' → z_J Z mL_machines R (k + R'.cells) (n + R'.slots) Q 78 ls (v.toList ++ rest) h') (kx : ∀ (E : String) (h' : zH), Q' (.inr E) h' → z_JX Z mL_machines R (k + R'.cells) (n + R'.slots) Q 75 ls E h') : z_J Z mL_machines R k n Q 75 ls st h := z_callS (M' := mL_addMachine) dL_machines_75 rfl cs_L_98 gw408 ha hR (z_chk1 hc) (z_chk2 hc) (z_chk3 hc) gc kr kx
def bL_machines_78 : zB := [(78, .bipush (-71), 80, -71)]
theorem bL_machines_78_ok : z_ok cL_machines 78 bL_machines_78 80 = true := by decide +kernel
theorem iL_machines_78 (hr : z_run 18 bL_machines_78 ls st = some (ls', st')) (g : z_J Z mL_machines R k n Q 80 ls' st' h) : z_J Z mL_machines R k n Q 78 ls st h := z_jr bL_machines_78 bL_machines_78_ok hr g
theorem dL_machines_80 : decode cL_machines 80 = .ok (.if_icmp .ne 28, 3) := by decide +kernel
theorem iL_machines_80 (kt : ¬ x = y → z_J Z mL_machines R k n Q 108 ls st h) (kf : x = y → z_J Z mL_machines R k n Q 83 ls st h) : z_J Z mL_machines R k n Q 80 ls (.int y :: .int x :: st) h := z_ic_ne dL_machines_80 (tgt := 108) (by decide) rfl kt kf
def bL_machines_83 : zB := [(83, .aload_n 0, 84, nI 0), (84, .iconst 0, 85, nI 0), (85, .iload 11, 87, nI 0)]
theorem bL_machines_83_ok : z_ok cL_machines 83 bL_machines_83 87 = true := by decide +kernel
theorem iL_machines_83 (hr : z_run 18 bL_machines_83 ls st = some (ls', st')) (g : z_J Z mL_machines R k n Q 87 ls' st' h) : z_J Z mL_machines R k n Q 83 ls st h := z_jr bL_machines_83 bL_machines_83_ok hr g
theorem dL_machines_87 : decode cL_machines 87 = .ok (.invokestatic 98, 3) := by decide +kernel
theorem iL_machines_87 (ha : z_args 3 st [] = some (As, rest)) (hc : z_chk rest As 5 = true) (hR : z_rm R R' 5 k n) (gc : z_J Z mL_addMachine R' 0 0 Q' 0 As [] h) (kr : ∀ (v : Option Value) (h' : zH), Q' (.inl v) h' → z_J Z mL_machines R (k + R'.cells) (n + R'.slots) Q 90 ls (v.toList ++ rest) h') (kx : ∀ (E : String) (h' : zH), Q' (.inr E) h' → z_JX Z mL_machines R (k + R'.cells) (n + R'.slots) Q 87 ls E h') : z_J Z mL_machines R k n Q 87 ls st h := z_callS (M' := mL_addMachine) dL_machines_87 rfl cs_L_98 gw408 ha hR (z_chk1 hc) (z_chk2 hc) (z_chk3 hc) gc kr kx
def bL_machines_90 : zB := [(90, .bipush (-72), 92, -72)]
theorem bL_machines_90_ok : z_ok cL_machines 90 bL_machines_90 92 = true := by decide +kernel
theorem iL_machines_90 (hr : z_run 18 bL_machines_90 ls st = some (ls', st')) (g : z_J Z mL_machines R k n Q 92 ls' st' h) : z_J Z mL_machines R k n Q 90 ls st h := z_jr bL_machines_90 bL_machines_90_ok hr g
theorem dL_machines_92 : decode cL_machines 92 = .ok (.if_icmp .ne 16, 3) := by decide +kernel
theorem iL_machines_92 (kt : ¬ x = y → z_J Z mL_machines R k n Q 108 ls st h) (kf : x = y → z_J Z mL_machines R k n Q 95 ls st h) : z_J Z mL_machines R k n Q 92 ls (.int y :: .int x :: st) h := z_ic_ne dL_machines_92 (tgt := 108) (by decide) rfl kt kf
def bL_machines_95 : zB := [(95, .aload_n 0, 96, nI 0), (96, .bipush 65, 98, nI 65), (98, .iload 11, 100, nI 0)]
theorem bL_machines_95_ok : z_ok cL_machines 95 bL_machines_95 100 = true := by decide +kernel
theorem iL_machines_95 (hr : z_run 18 bL_machines_95 ls st = some (ls', st')) (g : z_J Z mL_machines R k n Q 100 ls' st' h) : z_J Z mL_machines R k n Q 95 ls st h := z_jr bL_machines_95 bL_machines_95_ok hr g
theorem dL_machines_100 : decode cL_machines 100 = .ok (.invokestatic 98, 3) := by decide +kernel
theorem iL_machines_100 (ha : z_args 3 st [] = some (As, rest)) (hc : z_chk rest As 5 = true) (hR : z_rm R R' 5 k n) (gc : z_J Z mL_addMachine R' 0 0 Q' 0 As [] h) (kr : ∀ (v : Option Value) (h' : zH), Q' (.inl v) h' → z_J Z mL_machines R (k + R'.cells) (n + R'.slots) Q 103 ls (v.toList ++ rest) h') (kx : ∀ (E : String) (h' : zH), Q' (.inr E) h' → z_JX Z mL_machines R (k + R'.cells) (n + R'.slots) Q 100 ls E h') : z_J Z mL_machines R k n Q 100 ls st h := z_callS (M' := mL_addMachine) dL_machines_100 rfl cs_L_98 gw408 ha hR (z_chk1 hc) (z_chk2 hc) (z_chk3 hc) gc kr kx
def bL_machines_103 : zB := [(103, .bipush (-72), 105, -72)]
theorem bL_machines_103_ok : z_ok cL_machines 103 bL_machines_103 105 = true := by decide +kernel
theorem iL_machines_103 (hr : z_run 18 bL_machines_103 ls st = some (ls', st')) (g : z_J Z mL_machines R k n Q 105 ls' st' h) : z_J Z mL_machines R k n Q 103 ls st h := z_jr bL_machines_103 bL_machines_103_ok hr g
theorem dL_machines_105 : decode cL_machines 105 = .ok (.if_icmp .eq 5, 3) := by decide +kernel
theorem iL_machines_105 (kt : x = y → z_J Z mL_machines R k n Q 110 ls st h) (kf : ¬ x = y → z_J Z mL_machines R k n Q 108 ls st h) : z_J Z mL_machines R k n Q 105 ls (.int y :: .int x :: st) h := z_ic_eq dL_machines_105 (tgt := 110) (by decide) rfl kt kf
def bL_machines_108 : zB := [(108, .iconst 0, 109, nI 0)]
theorem bL_machines_108_ok : z_ok cL_machines 108 bL_machines_108 109 = true := by decide +kernel
theorem iL_machines_108 (hr : z_run 18 bL_machines_108 ls st = some (ls', st')) (g : z_J Z mL_machines R k n Q 109 ls' st' h) : z_J Z mL_machines R k n Q 108 ls st h := z_jr bL_machines_108 bL_machines_108_ok hr g
theorem dL_machines_109 : decode cL_machines 109 = .ok (.ireturn, 1) := by decide +kernel
theorem iL_machines_109 (hz : narrow .boolean (.int x) = .int x) (hk : k ≤ R.cells) (hs : n ≤ R.slots) (hq : Q (.inl (some (.int x))) h) : z_J Z mL_machines R k n Q 109 ls [.int x] h := z_iret (ty := .boolean) dL_machines_109 rfl hz hk hs hq
def bL_machines_110 : zB := [(110, .aload 8, 112, nI 0), (112, .iconst 1, 113, nI 1)]
theorem bL_machines_110_ok : z_ok cL_machines 110 bL_machines_110 113 = true := by decide +kernel
theorem iL_machines_110 (hr : z_run 18 bL_machines_110 ls st = some (ls', st')) (g : z_J Z mL_machines R k n Q 113 ls' st' h) : z_J Z mL_machines R k n Q 110 ls st h := z_jr bL_machines_110 bL_machines_110_ok hr g
theorem dL_machines_113 : decode cL_machines 113 = .ok (.iaload, 1) := by decide +kernel
theorem iL_machines_113 {f : Nat → Int32} (hh : h r = some (a, .inl (0, N, .inl f))) (hi : i = nI j) (hj : j < N) (hN : N < 2 ^ 31) (g : z_J Z mL_machines R k n Q 114 ls (.int (f j) :: st) h) : z_J Z mL_machines R k n Q 113 ls (.int i :: .ref a :: st) h := z_iald dL_machines_113 rfl hh hi hj hN g
def bL_machines_114 : zB := [(114, .iconst 4, 115, nI 4)]
theorem bL_machines_114_ok : z_ok cL_machines 114 bL_machines_114 115 = true := by decide +kernel
theorem iL_machines_114 (hr : z_run 18 bL_machines_114 ls st = some (ls', st')) (g : z_J Z mL_machines R k n Q 115 ls' st' h) : z_J Z mL_machines R k n Q 114 ls st h := z_jr bL_machines_114 bL_machines_114_ok hr g
theorem dL_machines_115 : decode cL_machines 115 = .ok (.if_icmp .ne 17, 3) := by decide +kernel
theorem iL_machines_115 (kt : ¬ x = y → z_J Z mL_machines R k n Q 132 ls st h) (kf : x = y → z_J Z mL_machines R k n Q 118 ls st h) : z_J Z mL_machines R k n Q 115 ls (.int y :: .int x :: st) h := z_ic_ne dL_machines_115 (tgt := 132) (by decide) rfl kt kf
def bL_machines_118 : zB := [(118, .aload_n 0, 119, nI 0)]
theorem bL_machines_118_ok : z_ok cL_machines 118 bL_machines_118 119 = true := by decide +kernel
theorem iL_machines_118 (hr : z_run 18 bL_machines_118 ls st = some (ls', st')) (g : z_J Z mL_machines R k n Q 119 ls' st' h) : z_J Z mL_machines R k n Q 118 ls st h := z_jr bL_machines_118 bL_machines_118_ok hr g
theorem dL_machines_119 : decode cL_machines 119 = .ok (.invokevirtual 100, 3) := by decide +kernel
theorem iL_machines_119 (ha : z_args 0 st [] = some (As, .ref b :: rest)) (hc : z_chk rest (.ref b :: As) 1 = true) (hh : h r = some (b, .inr (6, fs))) (hR : z_rm R R' 1 k n) (gc : z_J Z mX5_machines R' 0 0 Q' 0 (.ref b :: As) [] h) (kr : ∀ (v : Option Value) (h' : zH), Q' (.inl v) h' → z_J Z mL_machines R (k + R'.cells) (n + R'.slots) Q 122 ls (v.toList ++ rest) h') (kx : ∀ (E : String) (h' : zH), Q' (.inr E) h' → z_JX Z mL_machines R (k + R'.cells) (n + R'.slots) Q 119 ls E h') : z_J Z mL_machines R k n Q 119 ls st h := z_callV (M' := mX5_machines) dL_machines_119 rfl cs_L_100 rfl gw467 gw468 ha hh (ci := 6) rfl hR (z_chk1 hc) (z_chk2 hc) (z_chk3 hc) gc kr kx
def bL_machines_122 : zB := [(122, .iconst 4, 123, nI 4)]
theorem bL_machines_122_ok : z_ok cL_machines 122 bL_machines_122 123 = true := by decide +kernel
theorem iL_machines_122 (hr : z_run 18 bL_machines_122 ls st = some (ls', st')) (g : z_J Z mL_machines R k n Q 123 ls' st' h) : z_J Z mL_machines R k n Q 122 ls st h := z_jr bL_machines_122 bL_machines_122_ok hr g
theorem dL_machines_123 : decode cL_machines 123 = .ok (.if_icmp .ne 7, 3) := by decide +kernel
theorem iL_machines_123 (kt : ¬ x = y → z_J Z mL_machines R k n Q 130 ls st h) (kf : x = y → z_J Z mL_machines R k n Q 126 ls st h) : z_J Z mL_machines R k n Q 123 ls (.int y :: .int x :: st) h := z_ic_ne dL_machines_123 (tgt := 130) (by decide) rfl kt kf
def bL_machines_126 : zB := [(126, .iconst 1, 127, nI 1), (127, .goto 4, 131, nI 0)]
theorem bL_machines_126_ok : z_ok cL_machines 126 bL_machines_126 131 = true := by decide +kernel
theorem iL_machines_126 (hr : z_run 18 bL_machines_126 ls st = some (ls', st')) (g : z_J Z mL_machines R k n Q 131 ls' st' h) : z_J Z mL_machines R k n Q 126 ls st h := z_jr bL_machines_126 bL_machines_126_ok hr g
def bL_machines_130 : zB := [(130, .iconst 0, 131, nI 0)]
theorem bL_machines_130_ok : z_ok cL_machines 130 bL_machines_130 131 = true := by decide +kernel
theorem iL_machines_130 (hr : z_run 18 bL_machines_130 ls st = some (ls', st')) (g : z_J Z mL_machines R k n Q 131 ls' st' h) : z_J Z mL_machines R k n Q 130 ls st h := z_jr bL_machines_130 bL_machines_130_ok hr g
theorem dL_machines_131 : decode cL_machines 131 = .ok (.ireturn, 1) := by decide +kernel
theorem iL_machines_131 (hz : narrow .boolean (.int x) = .int x) (hk : k ≤ R.cells) (hs : n ≤ R.slots) (hq : Q (.inl (some (.int x))) h) : z_J Z mL_machines R k n Q 131 ls [.int x] h := z_iret (ty := .boolean) dL_machines_131 rfl hz hk hs hq
def bL_machines_132 : zB := [(132, .aload 4, 134, nI 0), (134, .aload 8, 136, nI 0), (136, .iconst 1, 137, nI 1)]
theorem bL_machines_132_ok : z_ok cL_machines 132 bL_machines_132 137 = true := by decide +kernel
theorem iL_machines_132 (hr : z_run 18 bL_machines_132 ls st = some (ls', st')) (g : z_J Z mL_machines R k n Q 137 ls' st' h) : z_J Z mL_machines R k n Q 132 ls st h := z_jr bL_machines_132 bL_machines_132_ok hr g
theorem dL_machines_137 : decode cL_machines 137 = .ok (.iaload, 1) := by decide +kernel
theorem iL_machines_137 {f : Nat → Int32} (hh : h r = some (a, .inl (0, N, .inl f))) (hi : i = nI j) (hj : j < N) (hN : N < 2 ^ 31) (g : z_J Z mL_machines R k n Q 138 ls (.int (f j) :: st) h) : z_J Z mL_machines R k n Q 137 ls (.int i :: .ref a :: st) h := z_iald dL_machines_137 rfl hh hi hj hN g
def bL_machines_138 : zB := [(138, .iload 11, 140, nI 0)]
theorem bL_machines_138_ok : z_ok cL_machines 138 bL_machines_138 140 = true := by decide +kernel
theorem iL_machines_138 (hr : z_run 18 bL_machines_138 ls st = some (ls', st')) (g : z_J Z mL_machines R k n Q 140 ls' st' h) : z_J Z mL_machines R k n Q 138 ls st h := z_jr bL_machines_138 bL_machines_138_ok hr g
theorem dL_machines_140 : decode cL_machines 140 = .ok (.iastore, 1) := by decide +kernel
theorem iL_machines_140 {f : Nat → Int32} (hh : h r = some (a, .inl (0, N, .inl f))) (hi : i = nI j) (hj : j < N) (hN : N < 2 ^ 31) (g : z_J Z mL_machines R k n Q 141 ls st (z_u h r (a, .inl (0, N, .inl (upd f j x))))) : z_J Z mL_machines R k n Q 140 ls (.int x :: .int i :: .ref a :: st) h := z_iast dL_machines_140 rfl hh hi hj hN g
def bL_machines_141 : zB := [(141, .aload 5, 143, nI 0), (143, .aload 8, 145, nI 0), (145, .iconst 1, 146, nI 1)]
theorem bL_machines_141_ok : z_ok cL_machines 141 bL_machines_141 146 = true := by decide +kernel
theorem iL_machines_141 (hr : z_run 18 bL_machines_141 ls st = some (ls', st')) (g : z_J Z mL_machines R k n Q 146 ls' st' h) : z_J Z mL_machines R k n Q 141 ls st h := z_jr bL_machines_141 bL_machines_141_ok hr g
theorem dL_machines_146 : decode cL_machines 146 = .ok (.iaload, 1) := by decide +kernel
theorem iL_machines_146 {f : Nat → Int32} (hh : h r = some (a, .inl (0, N, .inl f))) (hi : i = nI j) (hj : j < N) (hN : N < 2 ^ 31) (g : z_J Z mL_machines R k n Q 147 ls (.int (f j) :: st) h) : z_J Z mL_machines R k n Q 146 ls (.int i :: .ref a :: st) h := z_iald dL_machines_146 rfl hh hi hj hN g
def bL_machines_147 : zB := [(147, .iload 10, 149, nI 0)]
theorem bL_machines_147_ok : z_ok cL_machines 147 bL_machines_147 149 = true := by decide +kernel
theorem iL_machines_147 (hr : z_run 18 bL_machines_147 ls st = some (ls', st')) (g : z_J Z mL_machines R k n Q 149 ls' st' h) : z_J Z mL_machines R k n Q 147 ls st h := z_jr bL_machines_147 bL_machines_147_ok hr g
theorem dL_machines_149 : decode cL_machines 149 = .ok (.iastore, 1) := by decide +kernel
theorem iL_machines_149 {f : Nat → Int32} (hh : h r = some (a, .inl (0, N, .inl f))) (hi : i = nI j) (hj : j < N) (hN : N < 2 ^ 31) (g : z_J Z mL_machines R k n Q 150 ls st (z_u h r (a, .inl (0, N, .inl (upd f j x))))) : z_J Z mL_machines R k n Q 149 ls (.int x :: .int i :: .ref a :: st) h := z_iast dL_machines_149 rfl hh hi hj hN g
def bL_machines_150 : zB := [(150, .aload 8, 152, nI 0), (152, .iconst 1, 153, nI 1), (153, .dup2, 154, nI 0)]
theorem bL_machines_150_ok : z_ok cL_machines 150 bL_machines_150 154 = true := by decide +kernel
theorem iL_machines_150 (hr : z_run 18 bL_machines_150 ls st = some (ls', st')) (g : z_J Z mL_machines R k n Q 154 ls' st' h) : z_J Z mL_machines R k n Q 150 ls st h := z_jr bL_machines_150 bL_machines_150_ok hr g
theorem dL_machines_154 : decode cL_machines 154 = .ok (.iaload, 1) := by decide +kernel
theorem iL_machines_154 {f : Nat → Int32} (hh : h r = some (a, .inl (0, N, .inl f))) (hi : i = nI j) (hj : j < N) (hN : N < 2 ^ 31) (g : z_J Z mL_machines R k n Q 155 ls (.int (f j) :: st) h) : z_J Z mL_machines R k n Q 154 ls (.int i :: .ref a :: st) h := z_iald dL_machines_154 rfl hh hi hj hN g
def bL_machines_155 : zB := [(155, .iconst 1, 156, nI 1), (156, .iadd, 157, nI 0)]
theorem bL_machines_155_ok : z_ok cL_machines 155 bL_machines_155 157 = true := by decide +kernel
theorem iL_machines_155 (hr : z_run 18 bL_machines_155 ls st = some (ls', st')) (g : z_J Z mL_machines R k n Q 157 ls' st' h) : z_J Z mL_machines R k n Q 155 ls st h := z_jr bL_machines_155 bL_machines_155_ok hr g
theorem dL_machines_157 : decode cL_machines 157 = .ok (.iastore, 1) := by decide +kernel
theorem iL_machines_157 {f : Nat → Int32} (hh : h r = some (a, .inl (0, N, .inl f))) (hi : i = nI j) (hj : j < N) (hN : N < 2 ^ 31) (g : z_J Z mL_machines R k n Q 158 ls st (z_u h r (a, .inl (0, N, .inl (upd f j x))))) : z_J Z mL_machines R k n Q 157 ls (.int x :: .int i :: .ref a :: st) h := z_iast dL_machines_157 rfl hh hi hj hN g
def bL_machines_158 : zB := [(158, .aload_n 0, 159, nI 0), (159, .iload 10, 161, nI 0), (161, .iload 11, 163, nI 0)]
theorem bL_machines_158_ok : z_ok cL_machines 158 bL_machines_158 163 = true := by decide +kernel
theorem iL_machines_158 (hr : z_run 18 bL_machines_158 ls st = some (ls', st')) (g : z_J Z mL_machines R k n Q 163 ls' st' h) : z_J Z mL_machines R k n Q 158 ls st h := z_jr bL_machines_158 bL_machines_158_ok hr g
theorem dL_machines_163 : decode cL_machines 163 = .ok (.invokestatic 98, 3) := by decide +kernel
theorem iL_machines_163 (ha : z_args 3 st [] = some (As, rest)) (hc : z_chk rest As 5 = true) (hR : z_rm R R' 5 k n) (gc : z_J Z mL_addMachine R' 0 0 Q' 0 As [] h) (kr : ∀ (v : Option Value) (h' : zH), Q' (.inl v) h' → z_J Z mL_machines R (k + R'.cells) (n + R'.slots) Q 166 ls (v.toList ++ rest) h') (kx : ∀ (E : String) (h' : zH), Q' (.inr E) h' → z_JX Z mL_machines R (k + R'.cells) (n + R'.slots) Q 163 ls E h') : z_J Z mL_machines R k n Q 163 ls st h := z_callS (M' := mL_addMachine) dL_machines_163 rfl cs_L_98 gw408 ha hR (z_chk1 hc) (z_chk2 hc) (z_chk3 hc) gc kr kx
def bL_machines_166 : zB := [(166, .aload 8, 168, nI 0), (168, .iconst 1, 169, nI 1)]
theorem bL_machines_166_ok : z_ok cL_machines 166 bL_machines_166 169 = true := by decide +kernel
theorem iL_machines_166 (hr : z_run 18 bL_machines_166 ls st = some (ls', st')) (g : z_J Z mL_machines R k n Q 169 ls' st' h) : z_J Z mL_machines R k n Q 166 ls st h := z_jr bL_machines_166 bL_machines_166_ok hr g
theorem dL_machines_169 : decode cL_machines 169 = .ok (.iaload, 1) := by decide +kernel
theorem iL_machines_169 {f : Nat → Int32} (hh : h r = some (a, .inl (0, N, .inl f))) (hi : i = nI j) (hj : j < N) (hN : N < 2 ^ 31) (g : z_J Z mL_machines R k n Q 170 ls (.int (f j) :: st) h) : z_J Z mL_machines R k n Q 169 ls (.int i :: .ref a :: st) h := z_iald dL_machines_169 rfl hh hi hj hN g
def bL_machines_170 : zB := [(170, .iconst 1, 171, nI 1), (171, .isub, 172, nI 0)]
theorem bL_machines_170_ok : z_ok cL_machines 170 bL_machines_170 172 = true := by decide +kernel
theorem iL_machines_170 (hr : z_run 18 bL_machines_170 ls st = some (ls', st')) (g : z_J Z mL_machines R k n Q 172 ls' st' h) : z_J Z mL_machines R k n Q 170 ls st h := z_jr bL_machines_170 bL_machines_170_ok hr g
theorem dL_machines_172 : decode cL_machines 172 = .ok (.if_icmp .ne 7, 3) := by decide +kernel
theorem iL_machines_172 (kt : ¬ x = y → z_J Z mL_machines R k n Q 179 ls st h) (kf : x = y → z_J Z mL_machines R k n Q 175 ls st h) : z_J Z mL_machines R k n Q 172 ls (.int y :: .int x :: st) h := z_ic_ne dL_machines_172 (tgt := 179) (by decide) rfl kt kf
def bL_machines_175 : zB := [(175, .iconst 1, 176, nI 1), (176, .goto 4, 180, nI 0)]
theorem bL_machines_175_ok : z_ok cL_machines 175 bL_machines_175 180 = true := by decide +kernel
theorem iL_machines_175 (hr : z_run 18 bL_machines_175 ls st = some (ls', st')) (g : z_J Z mL_machines R k n Q 180 ls' st' h) : z_J Z mL_machines R k n Q 175 ls st h := z_jr bL_machines_175 bL_machines_175_ok hr g
def bL_machines_179 : zB := [(179, .iconst 0, 180, nI 0)]
theorem bL_machines_179_ok : z_ok cL_machines 179 bL_machines_179 180 = true := by decide +kernel
theorem iL_machines_179 (hr : z_run 18 bL_machines_179 ls st = some (ls', st')) (g : z_J Z mL_machines R k n Q 180 ls' st' h) : z_J Z mL_machines R k n Q 179 ls st h := z_jr bL_machines_179 bL_machines_179_ok hr g
theorem dL_machines_180 : decode cL_machines 180 = .ok (.ireturn, 1) := by decide +kernel
theorem iL_machines_180 (hz : narrow .boolean (.int x) = .int x) (hk : k ≤ R.cells) (hs : n ≤ R.slots) (hq : Q (.inl (some (.int x))) h) : z_J Z mL_machines R k n Q 180 ls [.int x] h := z_iret (ty := .boolean) dL_machines_180 rfl hz hk hs hq
def bL_machines_181 : zB := [(181, .iload 9, 183, nI 0), (183, .aload 8, 185, nI 0), (185, .iconst 1, 186, nI 1)]
theorem bL_machines_181_ok : z_ok cL_machines 181 bL_machines_181 186 = true := by decide +kernel
theorem iL_machines_181 (hr : z_run 18 bL_machines_181 ls st = some (ls', st')) (g : z_J Z mL_machines R k n Q 186 ls' st' h) : z_J Z mL_machines R k n Q 181 ls st h := z_jr bL_machines_181 bL_machines_181_ok hr g
theorem dL_machines_186 : decode cL_machines 186 = .ok (.iaload, 1) := by decide +kernel
theorem iL_machines_186 {f : Nat → Int32} (hh : h r = some (a, .inl (0, N, .inl f))) (hi : i = nI j) (hj : j < N) (hN : N < 2 ^ 31) (g : z_J Z mL_machines R k n Q 187 ls (.int (f j) :: st) h) : z_J Z mL_machines R k n Q 186 ls (.int i :: .ref a :: st) h := z_iald dL_machines_186 rfl hh hi hj hN g
theorem dL_machines_187 : decode cL_machines 187 = .ok (.if_icmp .ne 75, 3) := by decide +kernel
theorem iL_machines_187 (kt : ¬ x = y → z_J Z mL_machines R k n Q 262 ls st h) (kf : x = y → z_J Z mL_machines R k n Q 190 ls st h) : z_J Z mL_machines R k n Q 187 ls (.int y :: .int x :: st) h := z_ic_ne dL_machines_187 (tgt := 262) (by decide) rfl kt kf
def bL_machines_190 : zB := [(190, .aload_n 0, 191, nI 0), (191, .iload 9, 193, nI 0), (193, .iconst 0, 194, nI 0)]
theorem bL_machines_190_ok : z_ok cL_machines 190 bL_machines_190 194 = true := by decide +kernel
theorem iL_machines_190 (hr : z_run 18 bL_machines_190 ls st = some (ls', st')) (g : z_J Z mL_machines R k n Q 194 ls' st' h) : z_J Z mL_machines R k n Q 190 ls st h := z_jr bL_machines_190 bL_machines_190_ok hr g
theorem dL_machines_194 : decode cL_machines 194 = .ok (.invokestatic 104, 3) := by decide +kernel
theorem iL_machines_194 (ha : z_args 3 st [] = some (As, rest)) (hc : z_chk rest As 5 = true) (hR : z_rm R R' 5 k n) (gc : z_J Z mL_setCores R' 0 0 Q' 0 As [] h) (kr : ∀ (v : Option Value) (h' : zH), Q' (.inl v) h' → z_J Z mL_machines R (k + R'.cells) (n + R'.slots) Q 197 ls (v.toList ++ rest) h') (kx : ∀ (E : String) (h' : zH), Q' (.inr E) h' → z_JX Z mL_machines R (k + R'.cells) (n + R'.slots) Q 194 ls E h') : z_J Z mL_machines R k n Q 194 ls st h := z_callS (M' := mL_setCores) dL_machines_194 rfl cs_L_104 gw471 ha hR (z_chk1 hc) (z_chk2 hc) (z_chk3 hc) gc kr kx
def bL_machines_197 : zB := [(197, .bipush (-71), 199, -71)]
theorem bL_machines_197_ok : z_ok cL_machines 197 bL_machines_197 199 = true := by decide +kernel
theorem iL_machines_197 (hr : z_run 18 bL_machines_197 ls st = some (ls', st')) (g : z_J Z mL_machines R k n Q 199 ls' st' h) : z_J Z mL_machines R k n Q 197 ls st h := z_jr bL_machines_197 bL_machines_197_ok hr g
theorem dL_machines_199 : decode cL_machines 199 = .ok (.if_icmp .ne 61, 3) := by decide +kernel
theorem iL_machines_199 (kt : ¬ x = y → z_J Z mL_machines R k n Q 260 ls st h) (kf : x = y → z_J Z mL_machines R k n Q 202 ls st h) : z_J Z mL_machines R k n Q 199 ls (.int y :: .int x :: st) h := z_ic_ne dL_machines_199 (tgt := 260) (by decide) rfl kt kf
def bL_machines_202 : zB := [(202, .aload_n 0, 203, nI 0), (203, .iload 9, 205, nI 0), (205, .iconst 1, 206, nI 1)]
theorem bL_machines_202_ok : z_ok cL_machines 202 bL_machines_202 206 = true := by decide +kernel
theorem iL_machines_202 (hr : z_run 18 bL_machines_202 ls st = some (ls', st')) (g : z_J Z mL_machines R k n Q 206 ls' st' h) : z_J Z mL_machines R k n Q 202 ls st h := z_jr bL_machines_202 bL_machines_202_ok hr g
theorem dL_machines_206 : decode cL_machines 206 = .ok (.invokestatic 106, 3) := by decide +kernel
theorem iL_machines_206 (ha : z_args 3 st [] = some (As, rest)) (hc : z_chk rest As 5 = true) (hR : z_rm R R' 5 k n) (gc : z_J Z mL_tellApart R' 0 0 Q' 0 As [] h) (kr : ∀ (v : Option Value) (h' : zH), Q' (.inl v) h' → z_J Z mL_machines R (k + R'.cells) (n + R'.slots) Q 209 ls (v.toList ++ rest) h') (kx : ∀ (E : String) (h' : zH), Q' (.inr E) h' → z_JX Z mL_machines R (k + R'.cells) (n + R'.slots) Q 206 ls E h') : z_J Z mL_machines R k n Q 206 ls st h := z_callS (M' := mL_tellApart) dL_machines_206 rfl cs_L_106 gw478 ha hR (z_chk1 hc) (z_chk2 hc) (z_chk3 hc) gc kr kx
def bL_machines_209 : zB := [(209, .bipush (-71), 211, -71)]
theorem bL_machines_209_ok : z_ok cL_machines 209 bL_machines_209 211 = true := by decide +kernel
theorem iL_machines_209 (hr : z_run 18 bL_machines_209 ls st = some (ls', st')) (g : z_J Z mL_machines R k n Q 211 ls' st' h) : z_J Z mL_machines R k n Q 209 ls st h := z_jr bL_machines_209 bL_machines_209_ok hr g
theorem dL_machines_211 : decode cL_machines 211 = .ok (.if_icmp .ne 49, 3) := by decide +kernel
theorem iL_machines_211 (kt : ¬ x = y → z_J Z mL_machines R k n Q 260 ls st h) (kf : x = y → z_J Z mL_machines R k n Q 214 ls st h) : z_J Z mL_machines R k n Q 211 ls (.int y :: .int x :: st) h := z_ic_ne dL_machines_211 (tgt := 260) (by decide) rfl kt kf
def bL_machines_214 : zB := [(214, .aload_n 0, 215, nI 0), (215, .iload 9, 217, nI 0), (217, .iconst 0, 218, nI 0), (218, .iconst 1, 219, nI 1), (219, .iconst 1, 220, nI 1)]
theorem bL_machines_214_ok : z_ok cL_machines 214 bL_machines_214 220 = true := by decide +kernel
theorem iL_machines_214 (hr : z_run 18 bL_machines_214 ls st = some (ls', st')) (g : z_J Z mL_machines R k n Q 220 ls' st' h) : z_J Z mL_machines R k n Q 214 ls st h := z_jr bL_machines_214 bL_machines_214_ok hr g
theorem dL_machines_220 : decode cL_machines 220 = .ok (.invokestatic 109, 3) := by decide +kernel
theorem iL_machines_220 (ha : z_args 5 st [] = some (As, rest)) (hc : z_chk rest As 7 = true) (hR : z_rm R R' 7 k n) (gc : z_J Z mL_install R' 0 0 Q' 0 As [] h) (kr : ∀ (v : Option Value) (h' : zH), Q' (.inl v) h' → z_J Z mL_machines R (k + R'.cells) (n + R'.slots) Q 223 ls (v.toList ++ rest) h') (kx : ∀ (E : String) (h' : zH), Q' (.inr E) h' → z_JX Z mL_machines R (k + R'.cells) (n + R'.slots) Q 220 ls E h') : z_J Z mL_machines R k n Q 220 ls st h := z_callS (M' := mL_install) dL_machines_220 rfl cs_L_109 gw489 ha hR (z_chk1 hc) (z_chk2 hc) (z_chk3 hc) gc kr kx
def bL_machines_223 : zB := [(223, .bipush (-71), 225, -71)]
theorem bL_machines_223_ok : z_ok cL_machines 223 bL_machines_223 225 = true := by decide +kernel
theorem iL_machines_223 (hr : z_run 18 bL_machines_223 ls st = some (ls', st')) (g : z_J Z mL_machines R k n Q 225 ls' st' h) : z_J Z mL_machines R k n Q 223 ls st h := z_jr bL_machines_223 bL_machines_223_ok hr g
theorem dL_machines_225 : decode cL_machines 225 = .ok (.if_icmp .ne 35, 3) := by decide +kernel
theorem iL_machines_225 (kt : ¬ x = y → z_J Z mL_machines R k n Q 260 ls st h) (kf : x = y → z_J Z mL_machines R k n Q 228 ls st h) : z_J Z mL_machines R k n Q 225 ls (.int y :: .int x :: st) h := z_ic_ne dL_machines_225 (tgt := 260) (by decide) rfl kt kf
def bL_machines_228 : zB := [(228, .aload_n 0, 229, nI 0), (229, .iload 9, 231, nI 0), (231, .bipush 9, 233, nI 9), (233, .sipush 900, 236, nI 900)]
theorem bL_machines_228_ok : z_ok cL_machines 228 bL_machines_228 236 = true := by decide +kernel
theorem iL_machines_228 (hr : z_run 18 bL_machines_228 ls st = some (ls', st')) (g : z_J Z mL_machines R k n Q 236 ls' st' h) : z_J Z mL_machines R k n Q 228 ls st h := z_jr bL_machines_228 bL_machines_228_ok hr g
theorem dL_machines_236 : decode cL_machines 236 = .ok (.invokestatic 112, 3) := by decide +kernel
theorem iL_machines_236 (ha : z_args 4 st [] = some (As, rest)) (hc : z_chk rest As 6 = true) (hR : z_rm R R' 6 k n) (gc : z_J Z mL_uninstall R' 0 0 Q' 0 As [] h) (kr : ∀ (v : Option Value) (h' : zH), Q' (.inl v) h' → z_J Z mL_machines R (k + R'.cells) (n + R'.slots) Q 239 ls (v.toList ++ rest) h') (kx : ∀ (E : String) (h' : zH), Q' (.inr E) h' → z_JX Z mL_machines R (k + R'.cells) (n + R'.slots) Q 236 ls E h') : z_J Z mL_machines R k n Q 236 ls st h := z_callS (M' := mL_uninstall) dL_machines_236 rfl cs_L_112 gw525 ha hR (z_chk1 hc) (z_chk2 hc) (z_chk3 hc) gc kr kx
def bL_machines_239 : zB := [(239, .bipush (-71), 241, -71)]
theorem bL_machines_239_ok : z_ok cL_machines 239 bL_machines_239 241 = true := by decide +kernel
theorem iL_machines_239 (hr : z_run 18 bL_machines_239 ls st = some (ls', st')) (g : z_J Z mL_machines R k n Q 241 ls' st' h) : z_J Z mL_machines R k n Q 239 ls st h := z_jr bL_machines_239 bL_machines_239_ok hr g
theorem dL_machines_241 : decode cL_machines 241 = .ok (.if_icmp .ne 19, 3) := by decide +kernel
theorem iL_machines_241 (kt : ¬ x = y → z_J Z mL_machines R k n Q 260 ls st h) (kf : x = y → z_J Z mL_machines R k n Q 244 ls st h) : z_J Z mL_machines R k n Q 241 ls (.int y :: .int x :: st) h := z_ic_ne dL_machines_241 (tgt := 260) (by decide) rfl kt kf
def bL_machines_244 : zB := [(244, .aload_n 0, 245, nI 0), (245, .iconst (-1), 246, -1), (246, .iconst 0, 247, nI 0), (247, .iconst 0, 248, nI 0)]
theorem bL_machines_244_ok : z_ok cL_machines 244 bL_machines_244 248 = true := by decide +kernel
theorem iL_machines_244 (hr : z_run 18 bL_machines_244 ls st = some (ls', st')) (g : z_J Z mL_machines R k n Q 248 ls' st' h) : z_J Z mL_machines R k n Q 244 ls st h := z_jr bL_machines_244 bL_machines_244_ok hr g
theorem dL_machines_248 : decode cL_machines 248 = .ok (.invokestatic 115, 3) := by decide +kernel
theorem iL_machines_248 (ha : z_args 4 st [] = some (As, rest)) (hc : z_chk rest As 6 = true) (hR : z_rm R R' 6 k n) (gc : z_J Z mL_runs R' 0 0 Q' 0 As [] h) (kr : ∀ (v : Option Value) (h' : zH), Q' (.inl v) h' → z_J Z mL_machines R (k + R'.cells) (n + R'.slots) Q 251 ls (v.toList ++ rest) h') (kx : ∀ (E : String) (h' : zH), Q' (.inr E) h' → z_JX Z mL_machines R (k + R'.cells) (n + R'.slots) Q 248 ls E h') : z_J Z mL_machines R k n Q 248 ls st h := z_callS (M' := mL_runs) dL_machines_248 rfl cs_L_115 gw538 ha hR (z_chk1 hc) (z_chk2 hc) (z_chk3 hc) gc kr kx
def bL_machines_251 : zB := [(251, .bipush (-71), 253, -71)]
theorem bL_machines_251_ok : z_ok cL_machines 251 bL_machines_251 253 = true := by decide +kernel
theorem iL_machines_251 (hr : z_run 18 bL_machines_251 ls st = some (ls', st')) (g : z_J Z mL_machines R k n Q 253 ls' st' h) : z_J Z mL_machines R k n Q 251 ls st h := z_jr bL_machines_251 bL_machines_251_ok hr g
theorem dL_machines_253 : decode cL_machines 253 = .ok (.if_icmp .ne 7, 3) := by decide +kernel
theorem iL_machines_253 (kt : ¬ x = y → z_J Z mL_machines R k n Q 260 ls st h) (kf : x = y → z_J Z mL_machines R k n Q 256 ls st h) : z_J Z mL_machines R k n Q 253 ls (.int y :: .int x :: st) h := z_ic_ne dL_machines_253 (tgt := 260) (by decide) rfl kt kf
def bL_machines_256 : zB := [(256, .iconst 1, 257, nI 1), (257, .goto 4, 261, nI 0)]
theorem bL_machines_256_ok : z_ok cL_machines 256 bL_machines_256 261 = true := by decide +kernel
theorem iL_machines_256 (hr : z_run 18 bL_machines_256 ls st = some (ls', st')) (g : z_J Z mL_machines R k n Q 261 ls' st' h) : z_J Z mL_machines R k n Q 256 ls st h := z_jr bL_machines_256 bL_machines_256_ok hr g
def bL_machines_260 : zB := [(260, .iconst 0, 261, nI 0)]
theorem bL_machines_260_ok : z_ok cL_machines 260 bL_machines_260 261 = true := by decide +kernel
theorem iL_machines_260 (hr : z_run 18 bL_machines_260 ls st = some (ls', st')) (g : z_J Z mL_machines R k n Q 261 ls' st' h) : z_J Z mL_machines R k n Q 260 ls st h := z_jr bL_machines_260 bL_machines_260_ok hr g
theorem dL_machines_261 : decode cL_machines 261 = .ok (.ireturn, 1) := by decide +kernel
theorem iL_machines_261 (hz : narrow .boolean (.int x) = .int x) (hk : k ≤ R.cells) (hs : n ≤ R.slots) (hq : Q (.inl (some (.int x))) h) : z_J Z mL_machines R k n Q 261 ls [.int x] h := z_iret (ty := .boolean) dL_machines_261 rfl hz hk hs hq
def bL_machines_262 : zB := [(262, .iload_n 1, 263, nI 0), (263, .iconst 1, 264, nI 1)]
theorem bL_machines_262_ok : z_ok cL_machines 262 bL_machines_262 264 = true := by decide +kernel
theorem iL_machines_262 (hr : z_run 18 bL_machines_262 ls st = some (ls', st')) (g : z_J Z mL_machines R k n Q 264 ls' st' h) : z_J Z mL_machines R k n Q 262 ls st h := z_jr bL_machines_262 bL_machines_262_ok hr g
theorem dL_machines_264 : decode cL_machines 264 = .ok (.if_icmp .ne 61, 3) := by decide +kernel
theorem iL_machines_264 (kt : ¬ x = y → z_J Z mL_machines R k n Q 325 ls st h) (kf : x = y → z_J Z mL_machines R k n Q 267 ls st h) : z_J Z mL_machines R k n Q 264 ls (.int y :: .int x :: st) h := z_ic_ne dL_machines_264 (tgt := 325) (by decide) rfl kt kf
def bL_machines_267 : zB := [(267, .aload 5, 269, nI 0), (269, .iload 9, 271, nI 0)]
theorem bL_machines_267_ok : z_ok cL_machines 267 bL_machines_267 271 = true := by decide +kernel
theorem iL_machines_267 (hr : z_run 18 bL_machines_267 ls st = some (ls', st')) (g : z_J Z mL_machines R k n Q 271 ls' st' h) : z_J Z mL_machines R k n Q 267 ls st h := z_jr bL_machines_267 bL_machines_267_ok hr g
theorem dL_machines_271 : decode cL_machines 271 = .ok (.iaload, 1) := by decide +kernel
theorem iL_machines_271 {f : Nat → Int32} (hh : h r = some (a, .inl (0, N, .inl f))) (hi : i = nI j) (hj : j < N) (hN : N < 2 ^ 31) (g : z_J Z mL_machines R k n Q 272 ls (.int (f j) :: st) h) : z_J Z mL_machines R k n Q 271 ls (.int i :: .ref a :: st) h := z_iald dL_machines_271 rfl hh hi hj hN g
def bL_machines_272 : zB := [(272, .istore 11, 274, nI 0), (274, .aload 5, 276, nI 0), (276, .iload 9, 278, nI 0), (278, .iload 10, 280, nI 0)]
theorem bL_machines_272_ok : z_ok cL_machines 272 bL_machines_272 280 = true := by decide +kernel
theorem iL_machines_272 (hr : z_run 18 bL_machines_272 ls st = some (ls', st')) (g : z_J Z mL_machines R k n Q 280 ls' st' h) : z_J Z mL_machines R k n Q 272 ls st h := z_jr bL_machines_272 bL_machines_272_ok hr g
theorem dL_machines_280 : decode cL_machines 280 = .ok (.iastore, 1) := by decide +kernel
theorem iL_machines_280 {f : Nat → Int32} (hh : h r = some (a, .inl (0, N, .inl f))) (hi : i = nI j) (hj : j < N) (hN : N < 2 ^ 31) (g : z_J Z mL_machines R k n Q 281 ls st (z_u h r (a, .inl (0, N, .inl (upd f j x))))) : z_J Z mL_machines R k n Q 280 ls (.int x :: .int i :: .ref a :: st) h := z_iast dL_machines_280 rfl hh hi hj hN g
def bL_machines_281 : zB := [(281, .aload_n 0, 282, nI 0), (282, .iload 9, 284, nI 0), (284, .iconst 0, 285, nI 0)]
theorem bL_machines_281_ok : z_ok cL_machines 281 bL_machines_281 285 = true := by decide +kernel
theorem iL_machines_281 (hr : z_run 18 bL_machines_281 ls st = some (ls', st')) (g : z_J Z mL_machines R k n Q 285 ls' st' h) : z_J Z mL_machines R k n Q 281 ls st h := z_jr bL_machines_281 bL_machines_281_ok hr g
theorem dL_machines_285 : decode cL_machines 285 = .ok (.invokestatic 104, 3) := by decide +kernel
theorem iL_machines_285 (ha : z_args 3 st [] = some (As, rest)) (hc : z_chk rest As 5 = true) (hR : z_rm R R' 5 k n) (gc : z_J Z mL_setCores R' 0 0 Q' 0 As [] h) (kr : ∀ (v : Option Value) (h' : zH), Q' (.inl v) h' → z_J Z mL_machines R (k + R'.cells) (n + R'.slots) Q 288 ls (v.toList ++ rest) h') (kx : ∀ (E : String) (h' : zH), Q' (.inr E) h' → z_JX Z mL_machines R (k + R'.cells) (n + R'.slots) Q 285 ls E h') : z_J Z mL_machines R k n Q 285 ls st h := z_callS (M' := mL_setCores) dL_machines_285 rfl cs_L_104 gw471 ha hR (z_chk1 hc) (z_chk2 hc) (z_chk3 hc) gc kr kx
def bL_machines_288 : zB := [(288, .bipush (-72), 290, -72)]
theorem bL_machines_288_ok : z_ok cL_machines 288 bL_machines_288 290 = true := by decide +kernel
theorem iL_machines_288 (hr : z_run 18 bL_machines_288 ls st = some (ls', st')) (g : z_J Z mL_machines R k n Q 290 ls' st' h) : z_J Z mL_machines R k n Q 288 ls st h := z_jr bL_machines_288 bL_machines_288_ok hr g
theorem dL_machines_290 : decode cL_machines 290 = .ok (.if_icmp .ne 33, 3) := by decide +kernel
theorem iL_machines_290 (kt : ¬ x = y → z_J Z mL_machines R k n Q 323 ls st h) (kf : x = y → z_J Z mL_machines R k n Q 293 ls st h) : z_J Z mL_machines R k n Q 290 ls (.int y :: .int x :: st) h := z_ic_ne dL_machines_290 (tgt := 323) (by decide) rfl kt kf
def bL_machines_293 : zB := [(293, .aload_n 0, 294, nI 0), (294, .iload 9, 296, nI 0), (296, .bipush 65, 298, nI 65)]
theorem bL_machines_293_ok : z_ok cL_machines 293 bL_machines_293 298 = true := by decide +kernel
theorem iL_machines_293 (hr : z_run 18 bL_machines_293 ls st = some (ls', st')) (g : z_J Z mL_machines R k n Q 298 ls' st' h) : z_J Z mL_machines R k n Q 293 ls st h := z_jr bL_machines_293 bL_machines_293_ok hr g
theorem dL_machines_298 : decode cL_machines 298 = .ok (.invokestatic 104, 3) := by decide +kernel
theorem iL_machines_298 (ha : z_args 3 st [] = some (As, rest)) (hc : z_chk rest As 5 = true) (hR : z_rm R R' 5 k n) (gc : z_J Z mL_setCores R' 0 0 Q' 0 As [] h) (kr : ∀ (v : Option Value) (h' : zH), Q' (.inl v) h' → z_J Z mL_machines R (k + R'.cells) (n + R'.slots) Q 301 ls (v.toList ++ rest) h') (kx : ∀ (E : String) (h' : zH), Q' (.inr E) h' → z_JX Z mL_machines R (k + R'.cells) (n + R'.slots) Q 298 ls E h') : z_J Z mL_machines R k n Q 298 ls st h := z_callS (M' := mL_setCores) dL_machines_298 rfl cs_L_104 gw471 ha hR (z_chk1 hc) (z_chk2 hc) (z_chk3 hc) gc kr kx
def bL_machines_301 : zB := [(301, .bipush (-72), 303, -72)]
theorem bL_machines_301_ok : z_ok cL_machines 301 bL_machines_301 303 = true := by decide +kernel
theorem iL_machines_301 (hr : z_run 18 bL_machines_301 ls st = some (ls', st')) (g : z_J Z mL_machines R k n Q 303 ls' st' h) : z_J Z mL_machines R k n Q 301 ls st h := z_jr bL_machines_301 bL_machines_301_ok hr g
theorem dL_machines_303 : decode cL_machines 303 = .ok (.if_icmp .ne 20, 3) := by decide +kernel
theorem iL_machines_303 (kt : ¬ x = y → z_J Z mL_machines R k n Q 323 ls st h) (kf : x = y → z_J Z mL_machines R k n Q 306 ls st h) : z_J Z mL_machines R k n Q 303 ls (.int y :: .int x :: st) h := z_ic_ne dL_machines_303 (tgt := 323) (by decide) rfl kt kf
def bL_machines_306 : zB := [(306, .aload_n 0, 307, nI 0), (307, .iload 9, 309, nI 0), (309, .iload 10, 311, nI 0)]
theorem bL_machines_306_ok : z_ok cL_machines 306 bL_machines_306 311 = true := by decide +kernel
theorem iL_machines_306 (hr : z_run 18 bL_machines_306 ls st = some (ls', st')) (g : z_J Z mL_machines R k n Q 311 ls' st' h) : z_J Z mL_machines R k n Q 306 ls st h := z_jr bL_machines_306 bL_machines_306_ok hr g
theorem dL_machines_311 : decode cL_machines 311 = .ok (.invokestatic 104, 3) := by decide +kernel
theorem iL_machines_311 (ha : z_args 3 st [] = some (As, rest)) (hc : z_chk rest As 5 = true) (hR : z_rm R R' 5 k n) (gc : z_J Z mL_setCores R' 0 0 Q' 0 As [] h) (kr : ∀ (v : Option Value) (h' : zH), Q' (.inl v) h' → z_J Z mL_machines R (k + R'.cells) (n + R'.slots) Q 314 ls (v.toList ++ rest) h') (kx : ∀ (E : String) (h' : zH), Q' (.inr E) h' → z_JX Z mL_machines R (k + R'.cells) (n + R'.slots) Q 311 ls E h') : z_J Z mL_machines R k n Q 311 ls st h := z_callS (M' := mL_setCores) dL_machines_311 rfl cs_L_104 gw471 ha hR (z_chk1 hc) (z_chk2 hc) (z_chk3 hc) gc kr kx
def bL_machines_314 : zB := [(314, .iload 11, 316, nI 0)]
theorem bL_machines_314_ok : z_ok cL_machines 314 bL_machines_314 316 = true := by decide +kernel
theorem iL_machines_314 (hr : z_run 18 bL_machines_314 ls st = some (ls', st')) (g : z_J Z mL_machines R k n Q 316 ls' st' h) : z_J Z mL_machines R k n Q 314 ls st h := z_jr bL_machines_314 bL_machines_314_ok hr g
theorem dL_machines_316 : decode cL_machines 316 = .ok (.if_icmp .ne 7, 3) := by decide +kernel
theorem iL_machines_316 (kt : ¬ x = y → z_J Z mL_machines R k n Q 323 ls st h) (kf : x = y → z_J Z mL_machines R k n Q 319 ls st h) : z_J Z mL_machines R k n Q 316 ls (.int y :: .int x :: st) h := z_ic_ne dL_machines_316 (tgt := 323) (by decide) rfl kt kf
def bL_machines_319 : zB := [(319, .iconst 1, 320, nI 1), (320, .goto 4, 324, nI 0)]
theorem bL_machines_319_ok : z_ok cL_machines 319 bL_machines_319 324 = true := by decide +kernel
theorem iL_machines_319 (hr : z_run 18 bL_machines_319 ls st = some (ls', st')) (g : z_J Z mL_machines R k n Q 324 ls' st' h) : z_J Z mL_machines R k n Q 319 ls st h := z_jr bL_machines_319 bL_machines_319_ok hr g
def bL_machines_323 : zB := [(323, .iconst 0, 324, nI 0)]
theorem bL_machines_323_ok : z_ok cL_machines 323 bL_machines_323 324 = true := by decide +kernel
theorem iL_machines_323 (hr : z_run 18 bL_machines_323 ls st = some (ls', st')) (g : z_J Z mL_machines R k n Q 324 ls' st' h) : z_J Z mL_machines R k n Q 323 ls st h := z_jr bL_machines_323 bL_machines_323_ok hr g
theorem dL_machines_324 : decode cL_machines 324 = .ok (.ireturn, 1) := by decide +kernel
theorem iL_machines_324 (hz : narrow .boolean (.int x) = .int x) (hk : k ≤ R.cells) (hs : n ≤ R.slots) (hq : Q (.inl (some (.int x))) h) : z_J Z mL_machines R k n Q 324 ls [.int x] h := z_iret (ty := .boolean) dL_machines_324 rfl hz hk hs hq
def bL_machines_325 : zB := [(325, .iload_n 1, 326, nI 0), (326, .iconst 2, 327, nI 2)]
theorem bL_machines_325_ok : z_ok cL_machines 325 bL_machines_325 327 = true := by decide +kernel
theorem iL_machines_325 (hr : z_run 18 bL_machines_325 ls st = some (ls', st')) (g : z_J Z mL_machines R k n Q 327 ls' st' h) : z_J Z mL_machines R k n Q 325 ls st h := z_jr bL_machines_325 bL_machines_325_ok hr g
theorem dL_machines_327 : decode cL_machines 327 = .ok (.if_icmp .ne 76, 3) := by decide +kernel
theorem iL_machines_327 (kt : ¬ x = y → z_J Z mL_machines R k n Q 403 ls st h) (kf : x = y → z_J Z mL_machines R k n Q 330 ls st h) : z_J Z mL_machines R k n Q 327 ls (.int y :: .int x :: st) h := z_ic_ne dL_machines_327 (tgt := 403) (by decide) rfl kt kf
def bL_machines_330 : zB := [(330, .iload_n 3, 331, nI 0), (331, .bipush 6, 333, nI 6), (333, .iand, 334, nI 0), (334, .iconst 2, 335, nI 2)]
theorem bL_machines_330_ok : z_ok cL_machines 330 bL_machines_330 335 = true := by decide +kernel
theorem iL_machines_330 (hr : z_run 18 bL_machines_330 ls st = some (ls', st')) (g : z_J Z mL_machines R k n Q 335 ls' st' h) : z_J Z mL_machines R k n Q 330 ls st h := z_jr bL_machines_330 bL_machines_330_ok hr g
theorem dL_machines_335 : decode cL_machines 335 = .ok (.if_icmp .le 7, 3) := by decide +kernel
theorem iL_machines_335 (kt : x ≤ y → z_J Z mL_machines R k n Q 342 ls st h) (kf : ¬ x ≤ y → z_J Z mL_machines R k n Q 338 ls st h) : z_J Z mL_machines R k n Q 335 ls (.int y :: .int x :: st) h := z_ic_le dL_machines_335 (tgt := 342) (by decide) rfl kt kf
def bL_machines_338 : zB := [(338, .iconst 1, 339, nI 1), (339, .goto 4, 343, nI 0)]
theorem bL_machines_338_ok : z_ok cL_machines 338 bL_machines_338 343 = true := by decide +kernel
theorem iL_machines_338 (hr : z_run 18 bL_machines_338 ls st = some (ls', st')) (g : z_J Z mL_machines R k n Q 343 ls' st' h) : z_J Z mL_machines R k n Q 338 ls st h := z_jr bL_machines_338 bL_machines_338_ok hr g
def bL_machines_342 : zB := [(342, .iconst 0, 343, nI 0)]
theorem bL_machines_342_ok : z_ok cL_machines 342 bL_machines_342 343 = true := by decide +kernel
theorem iL_machines_342 (hr : z_run 18 bL_machines_342 ls st = some (ls', st')) (g : z_J Z mL_machines R k n Q 343 ls' st' h) : z_J Z mL_machines R k n Q 342 ls st h := z_jr bL_machines_342 bL_machines_342_ok hr g
def bL_machines_343 : zB := [(343, .istore 11, 345, nI 0), (345, .aload 8, 347, nI 0), (347, .iconst 2, 348, nI 2), (348, .iload 11, 350, nI 0)]
theorem bL_machines_343_ok : z_ok cL_machines 343 bL_machines_343 350 = true := by decide +kernel
theorem iL_machines_343 (hr : z_run 18 bL_machines_343 ls st = some (ls', st')) (g : z_J Z mL_machines R k n Q 350 ls' st' h) : z_J Z mL_machines R k n Q 343 ls st h := z_jr bL_machines_343 bL_machines_343_ok hr g
theorem dL_machines_350 : decode cL_machines 350 = .ok (.ifCond .eq 15, 3) := by decide +kernel
theorem iL_machines_350 (kt : x = 0 → z_J Z mL_machines R k n Q 365 ls st h) (kf : ¬ x = 0 → z_J Z mL_machines R k n Q 353 ls st h) : z_J Z mL_machines R k n Q 350 ls (.int x :: st) h := z_if_eq dL_machines_350 (tgt := 365) (by decide) rfl kt kf
def bL_machines_353 : zB := [(353, .aload 8, 355, nI 0), (355, .iconst 2, 356, nI 2)]
theorem bL_machines_353_ok : z_ok cL_machines 353 bL_machines_353 356 = true := by decide +kernel
theorem iL_machines_353 (hr : z_run 18 bL_machines_353 ls st = some (ls', st')) (g : z_J Z mL_machines R k n Q 356 ls' st' h) : z_J Z mL_machines R k n Q 353 ls st h := z_jr bL_machines_353 bL_machines_353_ok hr g
theorem dL_machines_356 : decode cL_machines 356 = .ok (.iaload, 1) := by decide +kernel
theorem iL_machines_356 {f : Nat → Int32} (hh : h r = some (a, .inl (0, N, .inl f))) (hi : i = nI j) (hj : j < N) (hN : N < 2 ^ 31) (g : z_J Z mL_machines R k n Q 357 ls (.int (f j) :: st) h) : z_J Z mL_machines R k n Q 356 ls (.int i :: .ref a :: st) h := z_iald dL_machines_356 rfl hh hi hj hN g
def bL_machines_357 : zB := [(357, .iconst 1, 358, nI 1), (358, .iload 9, 360, nI 0), (360, .ishl, 361, nI 0), (361, .ior, 362, nI 0), (362, .goto 14, 376, nI 0)]
theorem bL_machines_357_ok : z_ok cL_machines 357 bL_machines_357 376 = true := by decide +kernel
theorem iL_machines_357 (hr : z_run 18 bL_machines_357 ls st = some (ls', st')) (g : z_J Z mL_machines R k n Q 376 ls' st' h) : z_J Z mL_machines R k n Q 357 ls st h := z_jr bL_machines_357 bL_machines_357_ok hr g
def bL_machines_365 : zB := [(365, .aload 8, 367, nI 0), (367, .iconst 2, 368, nI 2)]
theorem bL_machines_365_ok : z_ok cL_machines 365 bL_machines_365 368 = true := by decide +kernel
theorem iL_machines_365 (hr : z_run 18 bL_machines_365 ls st = some (ls', st')) (g : z_J Z mL_machines R k n Q 368 ls' st' h) : z_J Z mL_machines R k n Q 365 ls st h := z_jr bL_machines_365 bL_machines_365_ok hr g
theorem dL_machines_368 : decode cL_machines 368 = .ok (.iaload, 1) := by decide +kernel
theorem iL_machines_368 {f : Nat → Int32} (hh : h r = some (a, .inl (0, N, .inl f))) (hi : i = nI j) (hj : j < N) (hN : N < 2 ^ 31) (g : z_J Z mL_machines R k n Q 369 ls (.int (f j) :: st) h) : z_J Z mL_machines R k n Q 368 ls (.int i :: .ref a :: st) h := z_iald dL_machines_368 rfl hh hi hj hN g
def bL_machines_369 : zB := [(369, .iconst 1, 370, nI 1), (370, .iload 9, 372, nI 0), (372, .ishl, 373, nI 0), (373, .iconst (-1), 374, -1), (374, .ixor, 375, nI 0), (375, .iand, 376, nI 0)]
theorem bL_machines_369_ok : z_ok cL_machines 369 bL_machines_369 376 = true := by decide +kernel
theorem iL_machines_369 (hr : z_run 18 bL_machines_369 ls st = some (ls', st')) (g : z_J Z mL_machines R k n Q 376 ls' st' h) : z_J Z mL_machines R k n Q 369 ls st h := z_jr bL_machines_369 bL_machines_369_ok hr g
theorem dL_machines_376 : decode cL_machines 376 = .ok (.iastore, 1) := by decide +kernel
theorem iL_machines_376 {f : Nat → Int32} (hh : h r = some (a, .inl (0, N, .inl f))) (hi : i = nI j) (hj : j < N) (hN : N < 2 ^ 31) (g : z_J Z mL_machines R k n Q 377 ls st (z_u h r (a, .inl (0, N, .inl (upd f j x))))) : z_J Z mL_machines R k n Q 376 ls (.int x :: .int i :: .ref a :: st) h := z_iast dL_machines_376 rfl hh hi hj hN g
def bL_machines_377 : zB := [(377, .aload_n 0, 378, nI 0), (378, .iload 9, 380, nI 0), (380, .iload 11, 382, nI 0)]
theorem bL_machines_377_ok : z_ok cL_machines 377 bL_machines_377 382 = true := by decide +kernel
theorem iL_machines_377 (hr : z_run 18 bL_machines_377 ls st = some (ls', st')) (g : z_J Z mL_machines R k n Q 382 ls' st' h) : z_J Z mL_machines R k n Q 377 ls st h := z_jr bL_machines_377 bL_machines_377_ok hr g
theorem dL_machines_382 : decode cL_machines 382 = .ok (.invokestatic 106, 3) := by decide +kernel
theorem iL_machines_382 (ha : z_args 3 st [] = some (As, rest)) (hc : z_chk rest As 5 = true) (hR : z_rm R R' 5 k n) (gc : z_J Z mL_tellApart R' 0 0 Q' 0 As [] h) (kr : ∀ (v : Option Value) (h' : zH), Q' (.inl v) h' → z_J Z mL_machines R (k + R'.cells) (n + R'.slots) Q 385 ls (v.toList ++ rest) h') (kx : ∀ (E : String) (h' : zH), Q' (.inr E) h' → z_JX Z mL_machines R (k + R'.cells) (n + R'.slots) Q 382 ls E h') : z_J Z mL_machines R k n Q 382 ls st h := z_callS (M' := mL_tellApart) dL_machines_382 rfl cs_L_106 gw478 ha hR (z_chk1 hc) (z_chk2 hc) (z_chk3 hc) gc kr kx
def bL_machines_385 : zB := [(385, .aload 4, 387, nI 0), (387, .aload 8, 389, nI 0), (389, .iload 9, 391, nI 0)]
theorem bL_machines_385_ok : z_ok cL_machines 385 bL_machines_385 391 = true := by decide +kernel
theorem iL_machines_385 (hr : z_run 18 bL_machines_385 ls st = some (ls', st')) (g : z_J Z mL_machines R k n Q 391 ls' st' h) : z_J Z mL_machines R k n Q 385 ls st h := z_jr bL_machines_385 bL_machines_385_ok hr g
theorem dL_machines_391 : decode cL_machines 391 = .ok (.invokestatic 76, 3) := by decide +kernel
theorem iL_machines_391 (ha : z_args 3 st [] = some (As, rest)) (hc : z_chk rest As 4 = true) (hR : z_rm R R' 4 k n) (gc : z_J Z mL_counts R' 0 0 Q' 0 As [] h) (kr : ∀ (v : Option Value) (h' : zH), Q' (.inl v) h' → z_J Z mL_machines R (k + R'.cells) (n + R'.slots) Q 394 ls (v.toList ++ rest) h') (kx : ∀ (E : String) (h' : zH), Q' (.inr E) h' → z_JX Z mL_machines R (k + R'.cells) (n + R'.slots) Q 391 ls E h') : z_J Z mL_machines R k n Q 391 ls st h := z_callS (M' := mL_counts) dL_machines_391 rfl cs_L_76 gw549 ha hR (z_chk1 hc) (z_chk2 hc) (z_chk3 hc) gc kr kx
theorem dL_machines_394 : decode cL_machines 394 = .ok (.if_icmp .ne 7, 3) := by decide +kernel
theorem iL_machines_394 (kt : ¬ x = y → z_J Z mL_machines R k n Q 401 ls st h) (kf : x = y → z_J Z mL_machines R k n Q 397 ls st h) : z_J Z mL_machines R k n Q 394 ls (.int y :: .int x :: st) h := z_ic_ne dL_machines_394 (tgt := 401) (by decide) rfl kt kf
def bL_machines_397 : zB := [(397, .iconst 1, 398, nI 1), (398, .goto 4, 402, nI 0)]
theorem bL_machines_397_ok : z_ok cL_machines 397 bL_machines_397 402 = true := by decide +kernel
theorem iL_machines_397 (hr : z_run 18 bL_machines_397 ls st = some (ls', st')) (g : z_J Z mL_machines R k n Q 402 ls' st' h) : z_J Z mL_machines R k n Q 397 ls st h := z_jr bL_machines_397 bL_machines_397_ok hr g
def bL_machines_401 : zB := [(401, .iconst 0, 402, nI 0)]
theorem bL_machines_401_ok : z_ok cL_machines 401 bL_machines_401 402 = true := by decide +kernel
theorem iL_machines_401 (hr : z_run 18 bL_machines_401 ls st = some (ls', st')) (g : z_J Z mL_machines R k n Q 402 ls' st' h) : z_J Z mL_machines R k n Q 401 ls st h := z_jr bL_machines_401 bL_machines_401_ok hr g
theorem dL_machines_402 : decode cL_machines 402 = .ok (.ireturn, 1) := by decide +kernel
theorem iL_machines_402 (hz : narrow .boolean (.int x) = .int x) (hk : k ≤ R.cells) (hs : n ≤ R.slots) (hq : Q (.inl (some (.int x))) h) : z_J Z mL_machines R k n Q 402 ls [.int x] h := z_iret (ty := .boolean) dL_machines_402 rfl hz hk hs hq
def bL_machines_403 : zB := [(403, .iload_n 2, 404, nI 0), (404, .iconst 4, 405, nI 4), (405, .ishr, 406, nI 0), (406, .iload_n 2, 407, nI 0), (407, .bipush 8, 409, nI 8), (409, .iand, 410, nI 0)]
theorem bL_machines_403_ok : z_ok cL_machines 403 bL_machines_403 410 = true := by decide +kernel
theorem iL_machines_403 (hr : z_run 18 bL_machines_403 ls st = some (ls', st')) (g : z_J Z mL_machines R k n Q 410 ls' st' h) : z_J Z mL_machines R k n Q 403 ls st h := z_jr bL_machines_403 bL_machines_403_ok hr g
theorem dL_machines_410 : decode cL_machines 410 = .ok (.ifCond .ne 7, 3) := by decide +kernel
theorem iL_machines_410 (kt : ¬ x = 0 → z_J Z mL_machines R k n Q 417 ls st h) (kf : x = 0 → z_J Z mL_machines R k n Q 413 ls st h) : z_J Z mL_machines R k n Q 410 ls (.int x :: st) h := z_if_ne dL_machines_410 (tgt := 417) (by decide) rfl kt kf
def bL_machines_413 : zB := [(413, .iconst 5, 414, nI 5), (414, .goto 4, 418, nI 0)]
theorem bL_machines_413_ok : z_ok cL_machines 413 bL_machines_413 418 = true := by decide +kernel
theorem iL_machines_413 (hr : z_run 18 bL_machines_413 ls st = some (ls', st')) (g : z_J Z mL_machines R k n Q 418 ls' st' h) : z_J Z mL_machines R k n Q 413 ls st h := z_jr bL_machines_413 bL_machines_413_ok hr g
def bL_machines_417 : zB := [(417, .iconst 2, 418, nI 2)]
theorem bL_machines_417_ok : z_ok cL_machines 417 bL_machines_417 418 = true := by decide +kernel
theorem iL_machines_417 (hr : z_run 18 bL_machines_417 ls st = some (ls', st')) (g : z_J Z mL_machines R k n Q 418 ls' st' h) : z_J Z mL_machines R k n Q 417 ls st h := z_jr bL_machines_417 bL_machines_417_ok hr g
theorem dL_machines_418 : decode cL_machines 418 = .ok (.invokestatic 87, 3) := by decide +kernel
theorem iL_machines_418 (ha : z_args 2 st [] = some (As, rest)) (hc : z_chk rest As 2 = true) (hR : z_rm R R' 2 k n) (gc : z_J Z mL_low R' 0 0 Q' 0 As [] h) (kr : ∀ (v : Option Value) (h' : zH), Q' (.inl v) h' → z_J Z mL_machines R (k + R'.cells) (n + R'.slots) Q 421 ls (v.toList ++ rest) h') (kx : ∀ (E : String) (h' : zH), Q' (.inr E) h' → z_JX Z mL_machines R (k + R'.cells) (n + R'.slots) Q 418 ls E h') : z_J Z mL_machines R k n Q 418 ls st h := z_callS (M' := mL_low) dL_machines_418 rfl cs_L_87 gw168 ha hR (z_chk1 hc) (z_chk2 hc) (z_chk3 hc) gc kr kx
def bL_machines_421 : zB := [(421, .istore 11, 423, nI 0), (423, .iload_n 1, 424, nI 0), (424, .iconst 3, 425, nI 3)]
theorem bL_machines_421_ok : z_ok cL_machines 421 bL_machines_421 425 = true := by decide +kernel
theorem iL_machines_421 (hr : z_run 18 bL_machines_421 ls st = some (ls', st')) (g : z_J Z mL_machines R k n Q 425 ls' st' h) : z_J Z mL_machines R k n Q 421 ls st h := z_jr bL_machines_421 bL_machines_421_ok hr g
theorem dL_machines_425 : decode cL_machines 425 = .ok (.if_icmp .ne 81, 3) := by decide +kernel
theorem iL_machines_425 (kt : ¬ x = y → z_J Z mL_machines R k n Q 506 ls st h) (kf : x = y → z_J Z mL_machines R k n Q 428 ls st h) : z_J Z mL_machines R k n Q 425 ls (.int y :: .int x :: st) h := z_ic_ne dL_machines_425 (tgt := 506) (by decide) rfl kt kf
def bL_machines_428 : zB := [(428, .aload 6, 430, nI 0), (430, .iload 11, 432, nI 0)]
theorem bL_machines_428_ok : z_ok cL_machines 428 bL_machines_428 432 = true := by decide +kernel
theorem iL_machines_428 (hr : z_run 18 bL_machines_428 ls st = some (ls', st')) (g : z_J Z mL_machines R k n Q 432 ls' st' h) : z_J Z mL_machines R k n Q 428 ls st h := z_jr bL_machines_428 bL_machines_428_ok hr g
theorem dL_machines_432 : decode cL_machines 432 = .ok (.iaload, 1) := by decide +kernel
theorem iL_machines_432 {f : Nat → Int32} (hh : h r = some (a, .inl (0, N, .inl f))) (hi : i = nI j) (hj : j < N) (hN : N < 2 ^ 31) (g : z_J Z mL_machines R k n Q 433 ls (.int (f j) :: st) h) : z_J Z mL_machines R k n Q 432 ls (.int i :: .ref a :: st) h := z_iald dL_machines_432 rfl hh hi hj hN g
def bL_machines_433 : zB := [(433, .istore 12, 435, nI 0), (435, .aload 6, 437, nI 0), (437, .iload 11, 439, nI 0), (439, .iconst 1, 440, nI 1), (440, .iload_n 3, 441, nI 0), (441, .bipush 16, 443, nI 16)]
theorem bL_machines_433_ok : z_ok cL_machines 433 bL_machines_433 443 = true := by decide +kernel
theorem iL_machines_433 (hr : z_run 18 bL_machines_433 ls st = some (ls', st')) (g : z_J Z mL_machines R k n Q 443 ls' st' h) : z_J Z mL_machines R k n Q 433 ls st h := z_jr bL_machines_433 bL_machines_433_ok hr g
theorem dL_machines_443 : decode cL_machines 443 = .ok (.invokestatic 87, 3) := by decide +kernel
theorem iL_machines_443 (ha : z_args 2 st [] = some (As, rest)) (hc : z_chk rest As 2 = true) (hR : z_rm R R' 2 k n) (gc : z_J Z mL_low R' 0 0 Q' 0 As [] h) (kr : ∀ (v : Option Value) (h' : zH), Q' (.inl v) h' → z_J Z mL_machines R (k + R'.cells) (n + R'.slots) Q 446 ls (v.toList ++ rest) h') (kx : ∀ (E : String) (h' : zH), Q' (.inr E) h' → z_JX Z mL_machines R (k + R'.cells) (n + R'.slots) Q 443 ls E h') : z_J Z mL_machines R k n Q 443 ls st h := z_callS (M' := mL_low) dL_machines_443 rfl cs_L_87 gw168 ha hR (z_chk1 hc) (z_chk2 hc) (z_chk3 hc) gc kr kx
def bL_machines_446 : zB := [(446, .iadd, 447, nI 0)]
theorem bL_machines_446_ok : z_ok cL_machines 446 bL_machines_446 447 = true := by decide +kernel
theorem iL_machines_446 (hr : z_run 18 bL_machines_446 ls st = some (ls', st')) (g : z_J Z mL_machines R k n Q 447 ls' st' h) : z_J Z mL_machines R k n Q 446 ls st h := z_jr bL_machines_446 bL_machines_446_ok hr g
theorem dL_machines_447 : decode cL_machines 447 = .ok (.iastore, 1) := by decide +kernel
theorem iL_machines_447 {f : Nat → Int32} (hh : h r = some (a, .inl (0, N, .inl f))) (hi : i = nI j) (hj : j < N) (hN : N < 2 ^ 31) (g : z_J Z mL_machines R k n Q 448 ls st (z_u h r (a, .inl (0, N, .inl (upd f j x))))) : z_J Z mL_machines R k n Q 447 ls (.int x :: .int i :: .ref a :: st) h := z_iast dL_machines_447 rfl hh hi hj hN g
def bL_machines_448 : zB := [(448, .aload_n 0, 449, nI 0), (449, .iconst 5, 450, nI 5), (450, .iconst 0, 451, nI 0)]
theorem bL_machines_448_ok : z_ok cL_machines 448 bL_machines_448 451 = true := by decide +kernel
theorem iL_machines_448 (hr : z_run 18 bL_machines_448 ls st = some (ls', st')) (g : z_J Z mL_machines R k n Q 451 ls' st' h) : z_J Z mL_machines R k n Q 448 ls st h := z_jr bL_machines_448 bL_machines_448_ok hr g
theorem dL_machines_451 : decode cL_machines 451 = .ok (.invokestatic 117, 3) := by decide +kernel
theorem iL_machines_451 (ha : z_args 3 st [] = some (As, rest)) (hc : z_chk rest As 5 = true) (hR : z_rm R R' 5 k n) (gc : z_J Z mL_setCoresOfUnit R' 0 0 Q' 0 As [] h) (kr : ∀ (v : Option Value) (h' : zH), Q' (.inl v) h' → z_J Z mL_machines R (k + R'.cells) (n + R'.slots) Q 454 ls (v.toList ++ rest) h') (kx : ∀ (E : String) (h' : zH), Q' (.inr E) h' → z_JX Z mL_machines R (k + R'.cells) (n + R'.slots) Q 451 ls E h') : z_J Z mL_machines R k n Q 451 ls st h := z_callS (M' := mL_setCoresOfUnit) dL_machines_451 rfl cs_L_117 gw552 ha hR (z_chk1 hc) (z_chk2 hc) (z_chk3 hc) gc kr kx
def bL_machines_454 : zB := [(454, .bipush (-71), 456, -71)]
theorem bL_machines_454_ok : z_ok cL_machines 454 bL_machines_454 456 = true := by decide +kernel
theorem iL_machines_454 (hr : z_run 18 bL_machines_454 ls st = some (ls', st')) (g : z_J Z mL_machines R k n Q 456 ls' st' h) : z_J Z mL_machines R k n Q 454 ls st h := z_jr bL_machines_454 bL_machines_454_ok hr g
theorem dL_machines_456 : decode cL_machines 456 = .ok (.if_icmp .ne 48, 3) := by decide +kernel
theorem iL_machines_456 (kt : ¬ x = y → z_J Z mL_machines R k n Q 504 ls st h) (kf : x = y → z_J Z mL_machines R k n Q 459 ls st h) : z_J Z mL_machines R k n Q 456 ls (.int y :: .int x :: st) h := z_ic_ne dL_machines_456 (tgt := 504) (by decide) rfl kt kf
def bL_machines_459 : zB := [(459, .aload_n 0, 460, nI 0), (460, .iload 11, 462, nI 0), (462, .iconst 0, 463, nI 0)]
theorem bL_machines_459_ok : z_ok cL_machines 459 bL_machines_459 463 = true := by decide +kernel
theorem iL_machines_459 (hr : z_run 18 bL_machines_459 ls st = some (ls', st')) (g : z_J Z mL_machines R k n Q 463 ls' st' h) : z_J Z mL_machines R k n Q 459 ls st h := z_jr bL_machines_459 bL_machines_459_ok hr g
theorem dL_machines_463 : decode cL_machines 463 = .ok (.invokestatic 117, 3) := by decide +kernel
theorem iL_machines_463 (ha : z_args 3 st [] = some (As, rest)) (hc : z_chk rest As 5 = true) (hR : z_rm R R' 5 k n) (gc : z_J Z mL_setCoresOfUnit R' 0 0 Q' 0 As [] h) (kr : ∀ (v : Option Value) (h' : zH), Q' (.inl v) h' → z_J Z mL_machines R (k + R'.cells) (n + R'.slots) Q 466 ls (v.toList ++ rest) h') (kx : ∀ (E : String) (h' : zH), Q' (.inr E) h' → z_JX Z mL_machines R (k + R'.cells) (n + R'.slots) Q 463 ls E h') : z_J Z mL_machines R k n Q 463 ls st h := z_callS (M' := mL_setCoresOfUnit) dL_machines_463 rfl cs_L_117 gw552 ha hR (z_chk1 hc) (z_chk2 hc) (z_chk3 hc) gc kr kx
def bL_machines_466 : zB := [(466, .bipush (-72), 468, -72)]
theorem bL_machines_466_ok : z_ok cL_machines 466 bL_machines_466 468 = true := by decide +kernel
theorem iL_machines_466 (hr : z_run 18 bL_machines_466 ls st = some (ls', st')) (g : z_J Z mL_machines R k n Q 468 ls' st' h) : z_J Z mL_machines R k n Q 466 ls st h := z_jr bL_machines_466 bL_machines_466_ok hr g
theorem dL_machines_468 : decode cL_machines 468 = .ok (.if_icmp .ne 36, 3) := by decide +kernel
theorem iL_machines_468 (kt : ¬ x = y → z_J Z mL_machines R k n Q 504 ls st h) (kf : x = y → z_J Z mL_machines R k n Q 471 ls st h) : z_J Z mL_machines R k n Q 468 ls (.int y :: .int x :: st) h := z_ic_ne dL_machines_468 (tgt := 504) (by decide) rfl kt kf
def bL_machines_471 : zB := [(471, .aload_n 0, 472, nI 0), (472, .iload 11, 474, nI 0), (474, .bipush 17, 476, nI 17)]
theorem bL_machines_471_ok : z_ok cL_machines 471 bL_machines_471 476 = true := by decide +kernel
theorem iL_machines_471 (hr : z_run 18 bL_machines_471 ls st = some (ls', st')) (g : z_J Z mL_machines R k n Q 476 ls' st' h) : z_J Z mL_machines R k n Q 471 ls st h := z_jr bL_machines_471 bL_machines_471_ok hr g
theorem dL_machines_476 : decode cL_machines 476 = .ok (.invokestatic 117, 3) := by decide +kernel
theorem iL_machines_476 (ha : z_args 3 st [] = some (As, rest)) (hc : z_chk rest As 5 = true) (hR : z_rm R R' 5 k n) (gc : z_J Z mL_setCoresOfUnit R' 0 0 Q' 0 As [] h) (kr : ∀ (v : Option Value) (h' : zH), Q' (.inl v) h' → z_J Z mL_machines R (k + R'.cells) (n + R'.slots) Q 479 ls (v.toList ++ rest) h') (kx : ∀ (E : String) (h' : zH), Q' (.inr E) h' → z_JX Z mL_machines R (k + R'.cells) (n + R'.slots) Q 476 ls E h') : z_J Z mL_machines R k n Q 476 ls st h := z_callS (M' := mL_setCoresOfUnit) dL_machines_476 rfl cs_L_117 gw552 ha hR (z_chk1 hc) (z_chk2 hc) (z_chk3 hc) gc kr kx
def bL_machines_479 : zB := [(479, .bipush (-72), 481, -72)]
theorem bL_machines_479_ok : z_ok cL_machines 479 bL_machines_479 481 = true := by decide +kernel
theorem iL_machines_479 (hr : z_run 18 bL_machines_479 ls st = some (ls', st')) (g : z_J Z mL_machines R k n Q 481 ls' st' h) : z_J Z mL_machines R k n Q 479 ls st h := z_jr bL_machines_479 bL_machines_479_ok hr g
theorem dL_machines_481 : decode cL_machines 481 = .ok (.if_icmp .ne 23, 3) := by decide +kernel
theorem iL_machines_481 (kt : ¬ x = y → z_J Z mL_machines R k n Q 504 ls st h) (kf : x = y → z_J Z mL_machines R k n Q 484 ls st h) : z_J Z mL_machines R k n Q 481 ls (.int y :: .int x :: st) h := z_ic_ne dL_machines_481 (tgt := 504) (by decide) rfl kt kf
def bL_machines_484 : zB := [(484, .aload_n 0, 485, nI 0), (485, .iload 11, 487, nI 0), (487, .aload 6, 489, nI 0), (489, .iload 11, 491, nI 0)]
theorem bL_machines_484_ok : z_ok cL_machines 484 bL_machines_484 491 = true := by decide +kernel
theorem iL_machines_484 (hr : z_run 18 bL_machines_484 ls st = some (ls', st')) (g : z_J Z mL_machines R k n Q 491 ls' st' h) : z_J Z mL_machines R k n Q 484 ls st h := z_jr bL_machines_484 bL_machines_484_ok hr g
theorem dL_machines_491 : decode cL_machines 491 = .ok (.iaload, 1) := by decide +kernel
theorem iL_machines_491 {f : Nat → Int32} (hh : h r = some (a, .inl (0, N, .inl f))) (hi : i = nI j) (hj : j < N) (hN : N < 2 ^ 31) (g : z_J Z mL_machines R k n Q 492 ls (.int (f j) :: st) h) : z_J Z mL_machines R k n Q 491 ls (.int i :: .ref a :: st) h := z_iald dL_machines_491 rfl hh hi hj hN g
theorem dL_machines_492 : decode cL_machines 492 = .ok (.invokestatic 117, 3) := by decide +kernel
theorem iL_machines_492 (ha : z_args 3 st [] = some (As, rest)) (hc : z_chk rest As 5 = true) (hR : z_rm R R' 5 k n) (gc : z_J Z mL_setCoresOfUnit R' 0 0 Q' 0 As [] h) (kr : ∀ (v : Option Value) (h' : zH), Q' (.inl v) h' → z_J Z mL_machines R (k + R'.cells) (n + R'.slots) Q 495 ls (v.toList ++ rest) h') (kx : ∀ (E : String) (h' : zH), Q' (.inr E) h' → z_JX Z mL_machines R (k + R'.cells) (n + R'.slots) Q 492 ls E h') : z_J Z mL_machines R k n Q 492 ls st h := z_callS (M' := mL_setCoresOfUnit) dL_machines_492 rfl cs_L_117 gw552 ha hR (z_chk1 hc) (z_chk2 hc) (z_chk3 hc) gc kr kx
def bL_machines_495 : zB := [(495, .iload 12, 497, nI 0)]
theorem bL_machines_495_ok : z_ok cL_machines 495 bL_machines_495 497 = true := by decide +kernel
theorem iL_machines_495 (hr : z_run 18 bL_machines_495 ls st = some (ls', st')) (g : z_J Z mL_machines R k n Q 497 ls' st' h) : z_J Z mL_machines R k n Q 495 ls st h := z_jr bL_machines_495 bL_machines_495_ok hr g
theorem dL_machines_497 : decode cL_machines 497 = .ok (.if_icmp .ne 7, 3) := by decide +kernel
theorem iL_machines_497 (kt : ¬ x = y → z_J Z mL_machines R k n Q 504 ls st h) (kf : x = y → z_J Z mL_machines R k n Q 500 ls st h) : z_J Z mL_machines R k n Q 497 ls (.int y :: .int x :: st) h := z_ic_ne dL_machines_497 (tgt := 504) (by decide) rfl kt kf
def bL_machines_500 : zB := [(500, .iconst 1, 501, nI 1), (501, .goto 4, 505, nI 0)]
theorem bL_machines_500_ok : z_ok cL_machines 500 bL_machines_500 505 = true := by decide +kernel
theorem iL_machines_500 (hr : z_run 18 bL_machines_500 ls st = some (ls', st')) (g : z_J Z mL_machines R k n Q 505 ls' st' h) : z_J Z mL_machines R k n Q 500 ls st h := z_jr bL_machines_500 bL_machines_500_ok hr g
def bL_machines_504 : zB := [(504, .iconst 0, 505, nI 0)]
theorem bL_machines_504_ok : z_ok cL_machines 504 bL_machines_504 505 = true := by decide +kernel
theorem iL_machines_504 (hr : z_run 18 bL_machines_504 ls st = some (ls', st')) (g : z_J Z mL_machines R k n Q 505 ls' st' h) : z_J Z mL_machines R k n Q 504 ls st h := z_jr bL_machines_504 bL_machines_504_ok hr g
theorem dL_machines_505 : decode cL_machines 505 = .ok (.ireturn, 1) := by decide +kernel
theorem iL_machines_505 (hz : narrow .boolean (.int x) = .int x) (hk : k ≤ R.cells) (hs : n ≤ R.slots) (hq : Q (.inl (some (.int x))) h) : z_J Z mL_machines R k n Q 505 ls [.int x] h := z_iret (ty := .boolean) dL_machines_505 rfl hz hk hs hq
def bL_machines_506 : zB := [(506, .aload 7, 508, nI 0), (508, .aload 8, 510, nI 0), (510, .iload 9, 512, nI 0), (512, .iload 11, 514, nI 0), (514, .sipush 1000, 517, nI 1000)]
theorem bL_machines_506_ok : z_ok cL_machines 506 bL_machines_506 517 = true := by decide +kernel
theorem iL_machines_506 (hr : z_run 18 bL_machines_506 ls st = some (ls', st')) (g : z_J Z mL_machines R k n Q 517 ls' st' h) : z_J Z mL_machines R k n Q 506 ls st h := z_jr bL_machines_506 bL_machines_506_ok hr g
theorem dL_machines_517 : decode cL_machines 517 = .ok (.invokestatic 70, 3) := by decide +kernel
theorem iL_machines_517 (ha : z_args 5 st [] = some (As, rest)) (hc : z_chk rest As 7 = true) (hR : z_rm R R' 7 k n) (gc : z_J Z mL_latest R' 0 0 Q' 0 As [] h) (kr : ∀ (v : Option Value) (h' : zH), Q' (.inl v) h' → z_J Z mL_machines R (k + R'.cells) (n + R'.slots) Q 520 ls (v.toList ++ rest) h') (kx : ∀ (E : String) (h' : zH), Q' (.inr E) h' → z_JX Z mL_machines R (k + R'.cells) (n + R'.slots) Q 517 ls E h') : z_J Z mL_machines R k n Q 517 ls st h := z_callS (M' := mL_latest) dL_machines_517 rfl cs_L_70 gw559 ha hR (z_chk1 hc) (z_chk2 hc) (z_chk3 hc) gc kr kx
def bL_machines_520 : zB := [(520, .istore 12, 522, nI 0), (522, .iload 12, 524, nI 0)]
theorem bL_machines_520_ok : z_ok cL_machines 520 bL_machines_520 524 = true := by decide +kernel
theorem iL_machines_520 (hr : z_run 18 bL_machines_520 ls st = some (ls', st')) (g : z_J Z mL_machines R k n Q 524 ls' st' h) : z_J Z mL_machines R k n Q 520 ls st h := z_jr bL_machines_520 bL_machines_520_ok hr g
theorem dL_machines_524 : decode cL_machines 524 = .ok (.ifCond .ge 7, 3) := by decide +kernel
theorem iL_machines_524 (kt : 0 ≤ x → z_J Z mL_machines R k n Q 531 ls st h) (kf : ¬ 0 ≤ x → z_J Z mL_machines R k n Q 527 ls st h) : z_J Z mL_machines R k n Q 524 ls (.int x :: st) h := z_if_ge dL_machines_524 (tgt := 531) (by decide) rfl kt kf
def bL_machines_527 : zB := [(527, .iconst (-1), 528, -1), (528, .goto 12, 540, nI 0)]
theorem bL_machines_527_ok : z_ok cL_machines 527 bL_machines_527 540 = true := by decide +kernel
theorem iL_machines_527 (hr : z_run 18 bL_machines_527 ls st = some (ls', st')) (g : z_J Z mL_machines R k n Q 540 ls' st' h) : z_J Z mL_machines R k n Q 527 ls st h := z_jr bL_machines_527 bL_machines_527_ok hr g
def bL_machines_531 : zB := [(531, .aload 7, 533, nI 0), (533, .iload 12, 535, nI 0)]
theorem bL_machines_531_ok : z_ok cL_machines 531 bL_machines_531 535 = true := by decide +kernel
theorem iL_machines_531 (hr : z_run 18 bL_machines_531 ls st = some (ls', st')) (g : z_J Z mL_machines R k n Q 535 ls' st' h) : z_J Z mL_machines R k n Q 531 ls st h := z_jr bL_machines_531 bL_machines_531_ok hr g
theorem dL_machines_535 : decode cL_machines 535 = .ok (.iaload, 1) := by decide +kernel
theorem iL_machines_535 {f : Nat → Int32} (hh : h r = some (a, .inl (0, N, .inl f))) (hi : i = nI j) (hj : j < N) (hN : N < 2 ^ 31) (g : z_J Z mL_machines R k n Q 536 ls (.int (f j) :: st) h) : z_J Z mL_machines R k n Q 535 ls (.int i :: .ref a :: st) h := z_iald dL_machines_535 rfl hh hi hj hN g
def bL_machines_536 : zB := [(536, .sipush 1023, 539, nI 1023), (539, .iand, 540, nI 0)]
theorem bL_machines_536_ok : z_ok cL_machines 536 bL_machines_536 540 = true := by decide +kernel
theorem iL_machines_536 (hr : z_run 18 bL_machines_536 ls st = some (ls', st')) (g : z_J Z mL_machines R k n Q 540 ls' st' h) : z_J Z mL_machines R k n Q 536 ls st h := z_jr bL_machines_536 bL_machines_536_ok hr g
def bL_machines_540 : zB := [(540, .istore 13, 542, nI 0), (542, .iload_n 3, 543, nI 0), (543, .bipush 14, 545, nI 14), (545, .iand, 546, nI 0)]
theorem bL_machines_540_ok : z_ok cL_machines 540 bL_machines_540 546 = true := by decide +kernel
theorem iL_machines_540 (hr : z_run 18 bL_machines_540 ls st = some (ls', st')) (g : z_J Z mL_machines R k n Q 546 ls' st' h) : z_J Z mL_machines R k n Q 540 ls st h := z_jr bL_machines_540 bL_machines_540_ok hr g
theorem dL_machines_546 : decode cL_machines 546 = .ok (.ifCond .ne 15, 3) := by decide +kernel
theorem iL_machines_546 (kt : ¬ x = 0 → z_J Z mL_machines R k n Q 561 ls st h) (kf : x = 0 → z_J Z mL_machines R k n Q 549 ls st h) : z_J Z mL_machines R k n Q 546 ls (.int x :: st) h := z_if_ne dL_machines_546 (tgt := 561) (by decide) rfl kt kf
def bL_machines_549 : zB := [(549, .iload_n 3, 550, nI 0), (550, .iconst 4, 551, nI 4), (551, .ishr, 552, nI 0), (552, .sipush 721, 555, nI 721)]
theorem bL_machines_549_ok : z_ok cL_machines 549 bL_machines_549 555 = true := by decide +kernel
theorem iL_machines_549 (hr : z_run 18 bL_machines_549 ls st = some (ls', st')) (g : z_J Z mL_machines R k n Q 555 ls' st' h) : z_J Z mL_machines R k n Q 549 ls st h := z_jr bL_machines_549 bL_machines_549_ok hr g
theorem dL_machines_555 : decode cL_machines 555 = .ok (.invokestatic 87, 3) := by decide +kernel
theorem iL_machines_555 (ha : z_args 2 st [] = some (As, rest)) (hc : z_chk rest As 2 = true) (hR : z_rm R R' 2 k n) (gc : z_J Z mL_low R' 0 0 Q' 0 As [] h) (kr : ∀ (v : Option Value) (h' : zH), Q' (.inl v) h' → z_J Z mL_machines R (k + R'.cells) (n + R'.slots) Q 558 ls (v.toList ++ rest) h') (kx : ∀ (E : String) (h' : zH), Q' (.inr E) h' → z_JX Z mL_machines R (k + R'.cells) (n + R'.slots) Q 555 ls E h') : z_J Z mL_machines R k n Q 555 ls st h := z_callS (M' := mL_low) dL_machines_555 rfl cs_L_87 gw168 ha hR (z_chk1 hc) (z_chk2 hc) (z_chk3 hc) gc kr kx
def bL_machines_558 : zB := [(558, .goto 29, 587, nI 0)]
theorem bL_machines_558_ok : z_ok cL_machines 558 bL_machines_558 587 = true := by decide +kernel
theorem iL_machines_558 (hr : z_run 18 bL_machines_558 ls st = some (ls', st')) (g : z_J Z mL_machines R k n Q 587 ls' st' h) : z_J Z mL_machines R k n Q 558 ls st h := z_jr bL_machines_558 bL_machines_558_ok hr g
def bL_machines_561 : zB := [(561, .iload 13, 563, nI 0), (563, .iconst 1, 564, nI 1), (564, .iadd, 565, nI 0), (565, .iload_n 3, 566, nI 0), (566, .iconst 4, 567, nI 4), (567, .ishr, 568, nI 0), (568, .iload_n 3, 569, nI 0), (569, .bipush 14, 571, nI 14), (571, .iand, 572, nI 0), (572, .iconst 2, 573, nI 2)]
theorem bL_machines_561_ok : z_ok cL_machines 561 bL_machines_561 573 = true := by decide +kernel
theorem iL_machines_561 (hr : z_run 18 bL_machines_561 ls st = some (ls', st')) (g : z_J Z mL_machines R k n Q 573 ls' st' h) : z_J Z mL_machines R k n Q 561 ls st h := z_jr bL_machines_561 bL_machines_561_ok hr g
theorem dL_machines_573 : decode cL_machines 573 = .ok (.if_icmp .ne 8, 3) := by decide +kernel
theorem iL_machines_573 (kt : ¬ x = y → z_J Z mL_machines R k n Q 581 ls st h) (kf : x = y → z_J Z mL_machines R k n Q 576 ls st h) : z_J Z mL_machines R k n Q 573 ls (.int y :: .int x :: st) h := z_ic_ne dL_machines_573 (tgt := 581) (by decide) rfl kt kf
def bL_machines_576 : zB := [(576, .bipush 60, 578, nI 60), (578, .goto 5, 583, nI 0)]
theorem bL_machines_576_ok : z_ok cL_machines 576 bL_machines_576 583 = true := by decide +kernel
theorem iL_machines_576 (hr : z_run 18 bL_machines_576 ls st = some (ls', st')) (g : z_J Z mL_machines R k n Q 583 ls' st' h) : z_J Z mL_machines R k n Q 576 ls st h := z_jr bL_machines_576 bL_machines_576_ok hr g
def bL_machines_581 : zB := [(581, .bipush 8, 583, nI 8)]
theorem bL_machines_581_ok : z_ok cL_machines 581 bL_machines_581 583 = true := by decide +kernel
theorem iL_machines_581 (hr : z_run 18 bL_machines_581 ls st = some (ls', st')) (g : z_J Z mL_machines R k n Q 583 ls' st' h) : z_J Z mL_machines R k n Q 581 ls st h := z_jr bL_machines_581 bL_machines_581_ok hr g
theorem dL_machines_583 : decode cL_machines 583 = .ok (.invokestatic 87, 3) := by decide +kernel
theorem iL_machines_583 (ha : z_args 2 st [] = some (As, rest)) (hc : z_chk rest As 2 = true) (hR : z_rm R R' 2 k n) (gc : z_J Z mL_low R' 0 0 Q' 0 As [] h) (kr : ∀ (v : Option Value) (h' : zH), Q' (.inl v) h' → z_J Z mL_machines R (k + R'.cells) (n + R'.slots) Q 586 ls (v.toList ++ rest) h') (kx : ∀ (E : String) (h' : zH), Q' (.inr E) h' → z_JX Z mL_machines R (k + R'.cells) (n + R'.slots) Q 583 ls E h') : z_J Z mL_machines R k n Q 583 ls st h := z_callS (M' := mL_low) dL_machines_583 rfl cs_L_87 gw168 ha hR (z_chk1 hc) (z_chk2 hc) (z_chk3 hc) gc kr kx
def bL_machines_586 : zB := [(586, .iadd, 587, nI 0)]
theorem bL_machines_586_ok : z_ok cL_machines 586 bL_machines_586 587 = true := by decide +kernel
theorem iL_machines_586 (hr : z_run 18 bL_machines_586 ls st = some (ls', st')) (g : z_J Z mL_machines R k n Q 587 ls' st' h) : z_J Z mL_machines R k n Q 586 ls st h := z_jr bL_machines_586 bL_machines_586_ok hr g
def bL_machines_587 : zB := [(587, .istore 14, 589, nI 0), (589, .iload 14, 591, nI 0), (591, .sipush 720, 594, nI 720)]
theorem bL_machines_587_ok : z_ok cL_machines 587 bL_machines_587 594 = true := by decide +kernel
theorem iL_machines_587 (hr : z_run 18 bL_machines_587 ls st = some (ls', st')) (g : z_J Z mL_machines R k n Q 594 ls' st' h) : z_J Z mL_machines R k n Q 587 ls st h := z_jr bL_machines_587 bL_machines_587_ok hr g
theorem dL_machines_594 : decode cL_machines 594 = .ok (.if_icmp .le 39, 3) := by decide +kernel
theorem iL_machines_594 (kt : x ≤ y → z_J Z mL_machines R k n Q 633 ls st h) (kf : ¬ x ≤ y → z_J Z mL_machines R k n Q 597 ls st h) : z_J Z mL_machines R k n Q 594 ls (.int y :: .int x :: st) h := z_ic_le dL_machines_594 (tgt := 633) (by decide) rfl kt kf
def bL_machines_597 : zB := [(597, .aload_n 0, 598, nI 0), (598, .iload 9, 600, nI 0), (600, .iload 11, 602, nI 0), (602, .sipush 721, 605, nI 721)]
theorem bL_machines_597_ok : z_ok cL_machines 597 bL_machines_597 605 = true := by decide +kernel
theorem iL_machines_597 (hr : z_run 18 bL_machines_597 ls st = some (ls', st')) (g : z_J Z mL_machines R k n Q 605 ls' st' h) : z_J Z mL_machines R k n Q 597 ls st h := z_jr bL_machines_597 bL_machines_597_ok hr g
theorem dL_machines_605 : decode cL_machines 605 = .ok (.invokestatic 115, 3) := by decide +kernel
theorem iL_machines_605 (ha : z_args 4 st [] = some (As, rest)) (hc : z_chk rest As 6 = true) (hR : z_rm R R' 6 k n) (gc : z_J Z mL_runs R' 0 0 Q' 0 As [] h) (kr : ∀ (v : Option Value) (h' : zH), Q' (.inl v) h' → z_J Z mL_machines R (k + R'.cells) (n + R'.slots) Q 608 ls (v.toList ++ rest) h') (kx : ∀ (E : String) (h' : zH), Q' (.inr E) h' → z_JX Z mL_machines R (k + R'.cells) (n + R'.slots) Q 605 ls E h') : z_J Z mL_machines R k n Q 605 ls st h := z_callS (M' := mL_runs) dL_machines_605 rfl cs_L_115 gw538 ha hR (z_chk1 hc) (z_chk2 hc) (z_chk3 hc) gc kr kx
def bL_machines_608 : zB := [(608, .bipush (-72), 610, -72)]
theorem bL_machines_608_ok : z_ok cL_machines 608 bL_machines_608 610 = true := by decide +kernel
theorem iL_machines_608 (hr : z_run 18 bL_machines_608 ls st = some (ls', st')) (g : z_J Z mL_machines R k n Q 610 ls' st' h) : z_J Z mL_machines R k n Q 608 ls st h := z_jr bL_machines_608 bL_machines_608_ok hr g
theorem dL_machines_610 : decode cL_machines 610 = .ok (.if_icmp .ne 21, 3) := by decide +kernel
theorem iL_machines_610 (kt : ¬ x = y → z_J Z mL_machines R k n Q 631 ls st h) (kf : x = y → z_J Z mL_machines R k n Q 613 ls st h) : z_J Z mL_machines R k n Q 610 ls (.int y :: .int x :: st) h := z_ic_ne dL_machines_610 (tgt := 631) (by decide) rfl kt kf
def bL_machines_613 : zB := [(613, .aload_n 0, 614, nI 0), (614, .iload 9, 616, nI 0), (616, .iload 11, 618, nI 0), (618, .iconst (-1), 619, -1)]
theorem bL_machines_613_ok : z_ok cL_machines 613 bL_machines_613 619 = true := by decide +kernel
theorem iL_machines_613 (hr : z_run 18 bL_machines_613 ls st = some (ls', st')) (g : z_J Z mL_machines R k n Q 619 ls' st' h) : z_J Z mL_machines R k n Q 613 ls st h := z_jr bL_machines_613 bL_machines_613_ok hr g
theorem dL_machines_619 : decode cL_machines 619 = .ok (.invokestatic 115, 3) := by decide +kernel
theorem iL_machines_619 (ha : z_args 4 st [] = some (As, rest)) (hc : z_chk rest As 6 = true) (hR : z_rm R R' 6 k n) (gc : z_J Z mL_runs R' 0 0 Q' 0 As [] h) (kr : ∀ (v : Option Value) (h' : zH), Q' (.inl v) h' → z_J Z mL_machines R (k + R'.cells) (n + R'.slots) Q 622 ls (v.toList ++ rest) h') (kx : ∀ (E : String) (h' : zH), Q' (.inr E) h' → z_JX Z mL_machines R (k + R'.cells) (n + R'.slots) Q 619 ls E h') : z_J Z mL_machines R k n Q 619 ls st h := z_callS (M' := mL_runs) dL_machines_619 rfl cs_L_115 gw538 ha hR (z_chk1 hc) (z_chk2 hc) (z_chk3 hc) gc kr kx
def bL_machines_622 : zB := [(622, .bipush (-72), 624, -72)]
theorem bL_machines_622_ok : z_ok cL_machines 622 bL_machines_622 624 = true := by decide +kernel
theorem iL_machines_622 (hr : z_run 18 bL_machines_622 ls st = some (ls', st')) (g : z_J Z mL_machines R k n Q 624 ls' st' h) : z_J Z mL_machines R k n Q 622 ls st h := z_jr bL_machines_622 bL_machines_622_ok hr g
theorem dL_machines_624 : decode cL_machines 624 = .ok (.if_icmp .ne 7, 3) := by decide +kernel
theorem iL_machines_624 (kt : ¬ x = y → z_J Z mL_machines R k n Q 631 ls st h) (kf : x = y → z_J Z mL_machines R k n Q 627 ls st h) : z_J Z mL_machines R k n Q 624 ls (.int y :: .int x :: st) h := z_ic_ne dL_machines_624 (tgt := 631) (by decide) rfl kt kf
def bL_machines_627 : zB := [(627, .iconst 1, 628, nI 1), (628, .goto 4, 632, nI 0)]
theorem bL_machines_627_ok : z_ok cL_machines 627 bL_machines_627 632 = true := by decide +kernel
theorem iL_machines_627 (hr : z_run 18 bL_machines_627 ls st = some (ls', st')) (g : z_J Z mL_machines R k n Q 632 ls' st' h) : z_J Z mL_machines R k n Q 627 ls st h := z_jr bL_machines_627 bL_machines_627_ok hr g
def bL_machines_631 : zB := [(631, .iconst 0, 632, nI 0)]
theorem bL_machines_631_ok : z_ok cL_machines 631 bL_machines_631 632 = true := by decide +kernel
theorem iL_machines_631 (hr : z_run 18 bL_machines_631 ls st = some (ls', st')) (g : z_J Z mL_machines R k n Q 632 ls' st' h) : z_J Z mL_machines R k n Q 631 ls st h := z_jr bL_machines_631 bL_machines_631_ok hr g
theorem dL_machines_632 : decode cL_machines 632 = .ok (.ireturn, 1) := by decide +kernel
theorem iL_machines_632 (hz : narrow .boolean (.int x) = .int x) (hk : k ≤ R.cells) (hs : n ≤ R.slots) (hq : Q (.inl (some (.int x))) h) : z_J Z mL_machines R k n Q 632 ls [.int x] h := z_iret (ty := .boolean) dL_machines_632 rfl hz hk hs hq
def bL_machines_633 : zB := [(633, .iconst 0, 634, nI 0), (634, .istore 15, 636, nI 0), (636, .iconst 0, 637, nI 0), (637, .istore 16, 639, nI 0)]
theorem bL_machines_633_ok : z_ok cL_machines 633 bL_machines_633 639 = true := by decide +kernel
theorem iL_machines_633 (hr : z_run 18 bL_machines_633 ls st = some (ls', st')) (g : z_J Z mL_machines R k n Q 639 ls' st' h) : z_J Z mL_machines R k n Q 633 ls st h := z_jr bL_machines_633 bL_machines_633_ok hr g
def bL_machines_639 : zB := [(639, .iload 16, 641, nI 0), (641, .aload 8, 643, nI 0), (643, .iconst 3, 644, nI 3)]
theorem bL_machines_639_ok : z_ok cL_machines 639 bL_machines_639 644 = true := by decide +kernel
theorem iL_machines_639 (hr : z_run 18 bL_machines_639 ls st = some (ls', st')) (g : z_J Z mL_machines R k n Q 644 ls' st' h) : z_J Z mL_machines R k n Q 639 ls st h := z_jr bL_machines_639 bL_machines_639_ok hr g
theorem dL_machines_644 : decode cL_machines 644 = .ok (.iaload, 1) := by decide +kernel
theorem iL_machines_644 {f : Nat → Int32} (hh : h r = some (a, .inl (0, N, .inl f))) (hi : i = nI j) (hj : j < N) (hN : N < 2 ^ 31) (g : z_J Z mL_machines R k n Q 645 ls (.int (f j) :: st) h) : z_J Z mL_machines R k n Q 644 ls (.int i :: .ref a :: st) h := z_iald dL_machines_644 rfl hh hi hj hN g
theorem dL_machines_645 : decode cL_machines 645 = .ok (.if_icmp .ge 52, 3) := by decide +kernel
theorem iL_machines_645 (kt : y ≤ x → z_J Z mL_machines R k n Q 697 ls st h) (kf : ¬ y ≤ x → z_J Z mL_machines R k n Q 648 ls st h) : z_J Z mL_machines R k n Q 645 ls (.int y :: .int x :: st) h := z_ic_ge dL_machines_645 (tgt := 697) (by decide) rfl kt kf
def bL_machines_648 : zB := [(648, .iload 15, 650, nI 0), (650, .aload 7, 652, nI 0), (652, .iload 16, 654, nI 0)]
theorem bL_machines_648_ok : z_ok cL_machines 648 bL_machines_648 654 = true := by decide +kernel
theorem iL_machines_648 (hr : z_run 18 bL_machines_648 ls st = some (ls', st')) (g : z_J Z mL_machines R k n Q 654 ls' st' h) : z_J Z mL_machines R k n Q 648 ls st h := z_jr bL_machines_648 bL_machines_648_ok hr g
theorem dL_machines_654 : decode cL_machines 654 = .ok (.iaload, 1) := by decide +kernel
theorem iL_machines_654 {f : Nat → Int32} (hh : h r = some (a, .inl (0, N, .inl f))) (hi : i = nI j) (hj : j < N) (hN : N < 2 ^ 31) (g : z_J Z mL_machines R k n Q 655 ls (.int (f j) :: st) h) : z_J Z mL_machines R k n Q 654 ls (.int i :: .ref a :: st) h := z_iald dL_machines_654 rfl hh hi hj hN g
def bL_machines_655 : zB := [(655, .bipush 14, 657, nI 14), (657, .ishr, 658, nI 0), (658, .iload 9, 660, nI 0), (660, .bipush 8, 662, nI 8), (662, .iload 11, 664, nI 0), (664, .imul, 665, nI 0), (665, .iadd, 666, nI 0)]
theorem bL_machines_655_ok : z_ok cL_machines 655 bL_machines_655 666 = true := by decide +kernel
theorem iL_machines_655 (hr : z_run 18 bL_machines_655 ls st = some (ls', st')) (g : z_J Z mL_machines R k n Q 666 ls' st' h) : z_J Z mL_machines R k n Q 655 ls st h := z_jr bL_machines_655 bL_machines_655_ok hr g
theorem dL_machines_666 : decode cL_machines 666 = .ok (.if_icmp .ne 21, 3) := by decide +kernel
theorem iL_machines_666 (kt : ¬ x = y → z_J Z mL_machines R k n Q 687 ls st h) (kf : x = y → z_J Z mL_machines R k n Q 669 ls st h) : z_J Z mL_machines R k n Q 666 ls (.int y :: .int x :: st) h := z_ic_ne dL_machines_666 (tgt := 687) (by decide) rfl kt kf
def bL_machines_669 : zB := [(669, .aload 7, 671, nI 0), (671, .iload 16, 673, nI 0)]
theorem bL_machines_669_ok : z_ok cL_machines 669 bL_machines_669 673 = true := by decide +kernel
theorem iL_machines_669 (hr : z_run 18 bL_machines_669 ls st = some (ls', st')) (g : z_J Z mL_machines R k n Q 673 ls' st' h) : z_J Z mL_machines R k n Q 669 ls st h := z_jr bL_machines_669 bL_machines_669_ok hr g
theorem dL_machines_673 : decode cL_machines 673 = .ok (.iaload, 1) := by decide +kernel
theorem iL_machines_673 {f : Nat → Int32} (hh : h r = some (a, .inl (0, N, .inl f))) (hi : i = nI j) (hj : j < N) (hN : N < 2 ^ 31) (g : z_J Z mL_machines R k n Q 674 ls (.int (f j) :: st) h) : z_J Z mL_machines R k n Q 673 ls (.int i :: .ref a :: st) h := z_iald dL_machines_673 rfl hh hi hj hN g
def bL_machines_674 : zB := [(674, .bipush 10, 676, nI 10), (676, .ishr, 677, nI 0), (677, .bipush 15, 679, nI 15), (679, .iand, 680, nI 0)]
theorem bL_machines_674_ok : z_ok cL_machines 674 bL_machines_674 680 = true := by decide +kernel
theorem iL_machines_674 (hr : z_run 18 bL_machines_674 ls st = some (ls', st')) (g : z_J Z mL_machines R k n Q 680 ls' st' h) : z_J Z mL_machines R k n Q 674 ls st h := z_jr bL_machines_674 bL_machines_674_ok hr g
theorem dL_machines_680 : decode cL_machines 680 = .ok (.ifCond .le 7, 3) := by decide +kernel
theorem iL_machines_680 (kt : x ≤ 0 → z_J Z mL_machines R k n Q 687 ls st h) (kf : ¬ x ≤ 0 → z_J Z mL_machines R k n Q 683 ls st h) : z_J Z mL_machines R k n Q 680 ls (.int x :: st) h := z_if_le dL_machines_680 (tgt := 687) (by decide) rfl kt kf
def bL_machines_683 : zB := [(683, .iconst 1, 684, nI 1), (684, .goto 4, 688, nI 0)]
theorem bL_machines_683_ok : z_ok cL_machines 683 bL_machines_683 688 = true := by decide +kernel
theorem iL_machines_683 (hr : z_run 18 bL_machines_683 ls st = some (ls', st')) (g : z_J Z mL_machines R k n Q 688 ls' st' h) : z_J Z mL_machines R k n Q 683 ls st h := z_jr bL_machines_683 bL_machines_683_ok hr g
def bL_machines_687 : zB := [(687, .iconst 0, 688, nI 0)]
theorem bL_machines_687_ok : z_ok cL_machines 687 bL_machines_687 688 = true := by decide +kernel
theorem iL_machines_687 (hr : z_run 18 bL_machines_687 ls st = some (ls', st')) (g : z_J Z mL_machines R k n Q 688 ls' st' h) : z_J Z mL_machines R k n Q 687 ls st h := z_jr bL_machines_687 bL_machines_687_ok hr g
def bL_machines_688 : zB := [(688, .iadd, 689, nI 0), (689, .istore 15, 691, nI 0), (691, .iinc 16 1, 694, nI 1), (694, .goto (-55), 639, nI 0)]
theorem bL_machines_688_ok : z_ok cL_machines 688 bL_machines_688 639 = true := by decide +kernel
theorem iL_machines_688 (hr : z_run 18 bL_machines_688 ls st = some (ls', st')) (g : z_J Z mL_machines R k n Q 639 ls' st' h) : z_J Z mL_machines R k n Q 688 ls st h := z_jr bL_machines_688 bL_machines_688_ok hr g
def bL_machines_697 : zB := [(697, .iconst 1, 698, nI 1), (698, .iload_n 2, 699, nI 0), (699, .bipush 8, 701, nI 8), (701, .ishr, 702, nI 0), (702, .bipush 9, 704, nI 9)]
theorem bL_machines_697_ok : z_ok cL_machines 697 bL_machines_697 704 = true := by decide +kernel
theorem iL_machines_697 (hr : z_run 18 bL_machines_697 ls st = some (ls', st')) (g : z_J Z mL_machines R k n Q 704 ls' st' h) : z_J Z mL_machines R k n Q 697 ls st h := z_jr bL_machines_697 bL_machines_697_ok hr g
theorem dL_machines_704 : decode cL_machines 704 = .ok (.invokestatic 87, 3) := by decide +kernel
theorem iL_machines_704 (ha : z_args 2 st [] = some (As, rest)) (hc : z_chk rest As 2 = true) (hR : z_rm R R' 2 k n) (gc : z_J Z mL_low R' 0 0 Q' 0 As [] h) (kr : ∀ (v : Option Value) (h' : zH), Q' (.inl v) h' → z_J Z mL_machines R (k + R'.cells) (n + R'.slots) Q 707 ls (v.toList ++ rest) h') (kx : ∀ (E : String) (h' : zH), Q' (.inr E) h' → z_JX Z mL_machines R (k + R'.cells) (n + R'.slots) Q 704 ls E h') : z_J Z mL_machines R k n Q 704 ls st h := z_callS (M' := mL_low) dL_machines_704 rfl cs_L_87 gw168 ha hR (z_chk1 hc) (z_chk2 hc) (z_chk3 hc) gc kr kx
def bL_machines_707 : zB := [(707, .iadd, 708, nI 0), (708, .istore 16, 710, nI 0), (710, .aload 8, 712, nI 0), (712, .iconst 3, 713, nI 3)]
theorem bL_machines_707_ok : z_ok cL_machines 707 bL_machines_707 713 = true := by decide +kernel
theorem iL_machines_707 (hr : z_run 18 bL_machines_707 ls st = some (ls', st')) (g : z_J Z mL_machines R k n Q 713 ls' st' h) : z_J Z mL_machines R k n Q 707 ls st h := z_jr bL_machines_707 bL_machines_707_ok hr g
theorem dL_machines_713 : decode cL_machines 713 = .ok (.iaload, 1) := by decide +kernel
theorem iL_machines_713 {f : Nat → Int32} (hh : h r = some (a, .inl (0, N, .inl f))) (hi : i = nI j) (hj : j < N) (hN : N < 2 ^ 31) (g : z_J Z mL_machines R k n Q 714 ls (.int (f j) :: st) h) : z_J Z mL_machines R k n Q 713 ls (.int i :: .ref a :: st) h := z_iald dL_machines_713 rfl hh hi hj hN g
def bL_machines_714 : zB := [(714, .bipush 60, 716, nI 60)]
theorem bL_machines_714_ok : z_ok cL_machines 714 bL_machines_714 716 = true := by decide +kernel
theorem iL_machines_714 (hr : z_run 18 bL_machines_714 ls st = some (ls', st')) (g : z_J Z mL_machines R k n Q 716 ls' st' h) : z_J Z mL_machines R k n Q 714 ls st h := z_jr bL_machines_714 bL_machines_714_ok hr g
theorem dL_machines_716 : decode cL_machines 716 = .ok (.if_icmp .ne 20, 3) := by decide +kernel
theorem iL_machines_716 (kt : ¬ x = y → z_J Z mL_machines R k n Q 736 ls st h) (kf : x = y → z_J Z mL_machines R k n Q 719 ls st h) : z_J Z mL_machines R k n Q 716 ls (.int y :: .int x :: st) h := z_ic_ne dL_machines_716 (tgt := 736) (by decide) rfl kt kf
def bL_machines_719 : zB := [(719, .aload_n 0, 720, nI 0)]
theorem bL_machines_719_ok : z_ok cL_machines 719 bL_machines_719 720 = true := by decide +kernel
theorem iL_machines_719 (hr : z_run 18 bL_machines_719 ls st = some (ls', st')) (g : z_J Z mL_machines R k n Q 720 ls' st' h) : z_J Z mL_machines R k n Q 719 ls st h := z_jr bL_machines_719 bL_machines_719_ok hr g
theorem dL_machines_720 : decode cL_machines 720 = .ok (.invokevirtual 100, 3) := by decide +kernel
theorem iL_machines_720 (ha : z_args 0 st [] = some (As, .ref b :: rest)) (hc : z_chk rest (.ref b :: As) 1 = true) (hh : h r = some (b, .inr (6, fs))) (hR : z_rm R R' 1 k n) (gc : z_J Z mX5_machines R' 0 0 Q' 0 (.ref b :: As) [] h) (kr : ∀ (v : Option Value) (h' : zH), Q' (.inl v) h' → z_J Z mL_machines R (k + R'.cells) (n + R'.slots) Q 723 ls (v.toList ++ rest) h') (kx : ∀ (E : String) (h' : zH), Q' (.inr E) h' → z_JX Z mL_machines R (k + R'.cells) (n + R'.slots) Q 720 ls E h') : z_J Z mL_machines R k n Q 720 ls st h := z_callV (M' := mX5_machines) dL_machines_720 rfl cs_L_100 rfl gw467 gw468 ha hh (ci := 6) rfl hR (z_chk1 hc) (z_chk2 hc) (z_chk3 hc) gc kr kx
def bL_machines_723 : zB := [(723, .aload 8, 725, nI 0), (725, .iconst 1, 726, nI 1)]
theorem bL_machines_723_ok : z_ok cL_machines 723 bL_machines_723 726 = true := by decide +kernel
theorem iL_machines_723 (hr : z_run 18 bL_machines_723 ls st = some (ls', st')) (g : z_J Z mL_machines R k n Q 726 ls' st' h) : z_J Z mL_machines R k n Q 723 ls st h := z_jr bL_machines_723 bL_machines_723_ok hr g
theorem dL_machines_726 : decode cL_machines 726 = .ok (.iaload, 1) := by decide +kernel
theorem iL_machines_726 {f : Nat → Int32} (hh : h r = some (a, .inl (0, N, .inl f))) (hi : i = nI j) (hj : j < N) (hN : N < 2 ^ 31) (g : z_J Z mL_machines R k n Q 727 ls (.int (f j) :: st) h) : z_J Z mL_machines R k n Q 726 ls (.int i :: .ref a :: st) h := z_iald dL_machines_726 rfl hh hi hj hN g
theorem dL_machines_727 : decode cL_machines 727 = .ok (.if_icmp .ne 7, 3) := by decide +kernel
theorem iL_machines_727 (kt : ¬ x = y → z_J Z mL_machines R k n Q 734 ls st h) (kf : x = y → z_J Z mL_machines R k n Q 730 ls st h) : z_J Z mL_machines R k n Q 727 ls (.int y :: .int x :: st) h := z_ic_ne dL_machines_727 (tgt := 734) (by decide) rfl kt kf
def bL_machines_730 : zB := [(730, .iconst 1, 731, nI 1), (731, .goto 4, 735, nI 0)]
theorem bL_machines_730_ok : z_ok cL_machines 730 bL_machines_730 735 = true := by decide +kernel
theorem iL_machines_730 (hr : z_run 18 bL_machines_730 ls st = some (ls', st')) (g : z_J Z mL_machines R k n Q 735 ls' st' h) : z_J Z mL_machines R k n Q 730 ls st h := z_jr bL_machines_730 bL_machines_730_ok hr g
def bL_machines_734 : zB := [(734, .iconst 0, 735, nI 0)]
theorem bL_machines_734_ok : z_ok cL_machines 734 bL_machines_734 735 = true := by decide +kernel
theorem iL_machines_734 (hr : z_run 18 bL_machines_734 ls st = some (ls', st')) (g : z_J Z mL_machines R k n Q 735 ls' st' h) : z_J Z mL_machines R k n Q 734 ls st h := z_jr bL_machines_734 bL_machines_734_ok hr g
theorem dL_machines_735 : decode cL_machines 735 = .ok (.ireturn, 1) := by decide +kernel
theorem iL_machines_735 (hz : narrow .boolean (.int x) = .int x) (hk : k ≤ R.cells) (hs : n ≤ R.slots) (hq : Q (.inl (some (.int x))) h) : z_J Z mL_machines R k n Q 735 ls [.int x] h := z_iret (ty := .boolean) dL_machines_735 rfl hz hk hs hq
def bL_machines_736 : zB := [(736, .iload_n 1, 737, nI 0), (737, .bipush 9, 739, nI 9)]
theorem bL_machines_736_ok : z_ok cL_machines 736 bL_machines_736 739 = true := by decide +kernel
theorem iL_machines_736 (hr : z_run 18 bL_machines_736 ls st = some (ls', st')) (g : z_J Z mL_machines R k n Q 739 ls' st' h) : z_J Z mL_machines R k n Q 736 ls st h := z_jr bL_machines_736 bL_machines_736_ok hr g
theorem dL_machines_739 : decode cL_machines 739 = .ok (.if_icmp .ge 185, 3) := by decide +kernel
theorem iL_machines_739 (kt : y ≤ x → z_J Z mL_machines R k n Q 924 ls st h) (kf : ¬ y ≤ x → z_J Z mL_machines R k n Q 742 ls st h) : z_J Z mL_machines R k n Q 739 ls (.int y :: .int x :: st) h := z_ic_ge dL_machines_739 (tgt := 924) (by decide) rfl kt kf
def bL_machines_742 : zB := [(742, .aload_n 0, 743, nI 0), (743, .iload 9, 745, nI 0), (745, .iconst 5, 746, nI 5), (746, .iconst 0, 747, nI 0), (747, .iconst 0, 748, nI 0)]
theorem bL_machines_742_ok : z_ok cL_machines 742 bL_machines_742 748 = true := by decide +kernel
theorem iL_machines_742 (hr : z_run 18 bL_machines_742 ls st = some (ls', st')) (g : z_J Z mL_machines R k n Q 748 ls' st' h) : z_J Z mL_machines R k n Q 742 ls st h := z_jr bL_machines_742 bL_machines_742_ok hr g
theorem dL_machines_748 : decode cL_machines 748 = .ok (.invokestatic 109, 3) := by decide +kernel
theorem iL_machines_748 (ha : z_args 5 st [] = some (As, rest)) (hc : z_chk rest As 7 = true) (hR : z_rm R R' 7 k n) (gc : z_J Z mL_install R' 0 0 Q' 0 As [] h) (kr : ∀ (v : Option Value) (h' : zH), Q' (.inl v) h' → z_J Z mL_machines R (k + R'.cells) (n + R'.slots) Q 751 ls (v.toList ++ rest) h') (kx : ∀ (E : String) (h' : zH), Q' (.inr E) h' → z_JX Z mL_machines R (k + R'.cells) (n + R'.slots) Q 748 ls E h') : z_J Z mL_machines R k n Q 748 ls st h := z_callS (M' := mL_install) dL_machines_748 rfl cs_L_109 gw489 ha hR (z_chk1 hc) (z_chk2 hc) (z_chk3 hc) gc kr kx
def bL_machines_751 : zB := [(751, .bipush (-71), 753, -71)]
theorem bL_machines_751_ok : z_ok cL_machines 751 bL_machines_751 753 = true := by decide +kernel
theorem iL_machines_751 (hr : z_run 18 bL_machines_751 ls st = some (ls', st')) (g : z_J Z mL_machines R k n Q 753 ls' st' h) : z_J Z mL_machines R k n Q 751 ls st h := z_jr bL_machines_751 bL_machines_751_ok hr g
theorem dL_machines_753 : decode cL_machines 753 = .ok (.if_icmp .ne 70, 3) := by decide +kernel
theorem iL_machines_753 (kt : ¬ x = y → z_J Z mL_machines R k n Q 823 ls st h) (kf : x = y → z_J Z mL_machines R k n Q 756 ls st h) : z_J Z mL_machines R k n Q 753 ls (.int y :: .int x :: st) h := z_ic_ne dL_machines_753 (tgt := 823) (by decide) rfl kt kf
def bL_machines_756 : zB := [(756, .aload_n 0, 757, nI 0), (757, .iload 9, 759, nI 0), (759, .iload 11, 761, nI 0), (761, .iconst 0, 762, nI 0), (762, .iload 14, 764, nI 0)]
theorem bL_machines_756_ok : z_ok cL_machines 756 bL_machines_756 764 = true := by decide +kernel
theorem iL_machines_756 (hr : z_run 18 bL_machines_756 ls st = some (ls', st')) (g : z_J Z mL_machines R k n Q 764 ls' st' h) : z_J Z mL_machines R k n Q 756 ls st h := z_jr bL_machines_756 bL_machines_756_ok hr g
theorem dL_machines_764 : decode cL_machines 764 = .ok (.invokestatic 109, 3) := by decide +kernel
theorem iL_machines_764 (ha : z_args 5 st [] = some (As, rest)) (hc : z_chk rest As 7 = true) (hR : z_rm R R' 7 k n) (gc : z_J Z mL_install R' 0 0 Q' 0 As [] h) (kr : ∀ (v : Option Value) (h' : zH), Q' (.inl v) h' → z_J Z mL_machines R (k + R'.cells) (n + R'.slots) Q 767 ls (v.toList ++ rest) h') (kx : ∀ (E : String) (h' : zH), Q' (.inr E) h' → z_JX Z mL_machines R (k + R'.cells) (n + R'.slots) Q 764 ls E h') : z_J Z mL_machines R k n Q 764 ls st h := z_callS (M' := mL_install) dL_machines_764 rfl cs_L_109 gw489 ha hR (z_chk1 hc) (z_chk2 hc) (z_chk3 hc) gc kr kx
def bL_machines_767 : zB := [(767, .bipush (-72), 769, -72)]
theorem bL_machines_767_ok : z_ok cL_machines 767 bL_machines_767 769 = true := by decide +kernel
theorem iL_machines_767 (hr : z_run 18 bL_machines_767 ls st = some (ls', st')) (g : z_J Z mL_machines R k n Q 769 ls' st' h) : z_J Z mL_machines R k n Q 767 ls st h := z_jr bL_machines_767 bL_machines_767_ok hr g
theorem dL_machines_769 : decode cL_machines 769 = .ok (.if_icmp .ne 54, 3) := by decide +kernel
theorem iL_machines_769 (kt : ¬ x = y → z_J Z mL_machines R k n Q 823 ls st h) (kf : x = y → z_J Z mL_machines R k n Q 772 ls st h) : z_J Z mL_machines R k n Q 769 ls (.int y :: .int x :: st) h := z_ic_ne dL_machines_769 (tgt := 823) (by decide) rfl kt kf
def bL_machines_772 : zB := [(772, .aload_n 0, 773, nI 0), (773, .iload 9, 775, nI 0), (775, .iload 11, 777, nI 0), (777, .bipush 10, 779, nI 10), (779, .iload 14, 781, nI 0)]
theorem bL_machines_772_ok : z_ok cL_machines 772 bL_machines_772 781 = true := by decide +kernel
theorem iL_machines_772 (hr : z_run 18 bL_machines_772 ls st = some (ls', st')) (g : z_J Z mL_machines R k n Q 781 ls' st' h) : z_J Z mL_machines R k n Q 772 ls st h := z_jr bL_machines_772 bL_machines_772_ok hr g
theorem dL_machines_781 : decode cL_machines 781 = .ok (.invokestatic 109, 3) := by decide +kernel
theorem iL_machines_781 (ha : z_args 5 st [] = some (As, rest)) (hc : z_chk rest As 7 = true) (hR : z_rm R R' 7 k n) (gc : z_J Z mL_install R' 0 0 Q' 0 As [] h) (kr : ∀ (v : Option Value) (h' : zH), Q' (.inl v) h' → z_J Z mL_machines R (k + R'.cells) (n + R'.slots) Q 784 ls (v.toList ++ rest) h') (kx : ∀ (E : String) (h' : zH), Q' (.inr E) h' → z_JX Z mL_machines R (k + R'.cells) (n + R'.slots) Q 781 ls E h') : z_J Z mL_machines R k n Q 781 ls st h := z_callS (M' := mL_install) dL_machines_781 rfl cs_L_109 gw489 ha hR (z_chk1 hc) (z_chk2 hc) (z_chk3 hc) gc kr kx
def bL_machines_784 : zB := [(784, .bipush (-72), 786, -72)]
theorem bL_machines_784_ok : z_ok cL_machines 784 bL_machines_784 786 = true := by decide +kernel
theorem iL_machines_784 (hr : z_run 18 bL_machines_784 ls st = some (ls', st')) (g : z_J Z mL_machines R k n Q 786 ls' st' h) : z_J Z mL_machines R k n Q 784 ls st h := z_jr bL_machines_784 bL_machines_784_ok hr g
theorem dL_machines_786 : decode cL_machines 786 = .ok (.if_icmp .ne 37, 3) := by decide +kernel
theorem iL_machines_786 (kt : ¬ x = y → z_J Z mL_machines R k n Q 823 ls st h) (kf : x = y → z_J Z mL_machines R k n Q 789 ls st h) : z_J Z mL_machines R k n Q 786 ls (.int y :: .int x :: st) h := z_ic_ne dL_machines_786 (tgt := 823) (by decide) rfl kt kf
def bL_machines_789 : zB := [(789, .aload_n 0, 790, nI 0), (790, .iload 9, 792, nI 0), (792, .iload 11, 794, nI 0), (794, .iload 16, 796, nI 0), (796, .sipush 721, 799, nI 721)]
theorem bL_machines_789_ok : z_ok cL_machines 789 bL_machines_789 799 = true := by decide +kernel
theorem iL_machines_789 (hr : z_run 18 bL_machines_789 ls st = some (ls', st')) (g : z_J Z mL_machines R k n Q 799 ls' st' h) : z_J Z mL_machines R k n Q 789 ls st h := z_jr bL_machines_789 bL_machines_789_ok hr g
theorem dL_machines_799 : decode cL_machines 799 = .ok (.invokestatic 109, 3) := by decide +kernel
theorem iL_machines_799 (ha : z_args 5 st [] = some (As, rest)) (hc : z_chk rest As 7 = true) (hR : z_rm R R' 7 k n) (gc : z_J Z mL_install R' 0 0 Q' 0 As [] h) (kr : ∀ (v : Option Value) (h' : zH), Q' (.inl v) h' → z_J Z mL_machines R (k + R'.cells) (n + R'.slots) Q 802 ls (v.toList ++ rest) h') (kx : ∀ (E : String) (h' : zH), Q' (.inr E) h' → z_JX Z mL_machines R (k + R'.cells) (n + R'.slots) Q 799 ls E h') : z_J Z mL_machines R k n Q 799 ls st h := z_callS (M' := mL_install) dL_machines_799 rfl cs_L_109 gw489 ha hR (z_chk1 hc) (z_chk2 hc) (z_chk3 hc) gc kr kx
def bL_machines_802 : zB := [(802, .bipush (-72), 804, -72)]
theorem bL_machines_802_ok : z_ok cL_machines 802 bL_machines_802 804 = true := by decide +kernel
theorem iL_machines_802 (hr : z_run 18 bL_machines_802 ls st = some (ls', st')) (g : z_J Z mL_machines R k n Q 804 ls' st' h) : z_J Z mL_machines R k n Q 802 ls st h := z_jr bL_machines_802 bL_machines_802_ok hr g
theorem dL_machines_804 : decode cL_machines 804 = .ok (.if_icmp .ne 19, 3) := by decide +kernel
theorem iL_machines_804 (kt : ¬ x = y → z_J Z mL_machines R k n Q 823 ls st h) (kf : x = y → z_J Z mL_machines R k n Q 807 ls st h) : z_J Z mL_machines R k n Q 804 ls (.int y :: .int x :: st) h := z_ic_ne dL_machines_804 (tgt := 823) (by decide) rfl kt kf
def bL_machines_807 : zB := [(807, .aload_n 0, 808, nI 0), (808, .iload 9, 810, nI 0), (810, .iload 11, 812, nI 0), (812, .iload 16, 814, nI 0), (814, .iconst (-1), 815, -1)]
theorem bL_machines_807_ok : z_ok cL_machines 807 bL_machines_807 815 = true := by decide +kernel
theorem iL_machines_807 (hr : z_run 18 bL_machines_807 ls st = some (ls', st')) (g : z_J Z mL_machines R k n Q 815 ls' st' h) : z_J Z mL_machines R k n Q 807 ls st h := z_jr bL_machines_807 bL_machines_807_ok hr g
theorem dL_machines_815 : decode cL_machines 815 = .ok (.invokestatic 109, 3) := by decide +kernel
theorem iL_machines_815 (ha : z_args 5 st [] = some (As, rest)) (hc : z_chk rest As 7 = true) (hR : z_rm R R' 7 k n) (gc : z_J Z mL_install R' 0 0 Q' 0 As [] h) (kr : ∀ (v : Option Value) (h' : zH), Q' (.inl v) h' → z_J Z mL_machines R (k + R'.cells) (n + R'.slots) Q 818 ls (v.toList ++ rest) h') (kx : ∀ (E : String) (h' : zH), Q' (.inr E) h' → z_JX Z mL_machines R (k + R'.cells) (n + R'.slots) Q 815 ls E h') : z_J Z mL_machines R k n Q 815 ls st h := z_callS (M' := mL_install) dL_machines_815 rfl cs_L_109 gw489 ha hR (z_chk1 hc) (z_chk2 hc) (z_chk3 hc) gc kr kx
def bL_machines_818 : zB := [(818, .bipush (-72), 820, -72)]
theorem bL_machines_818_ok : z_ok cL_machines 818 bL_machines_818 820 = true := by decide +kernel
theorem iL_machines_818 (hr : z_run 18 bL_machines_818 ls st = some (ls', st')) (g : z_J Z mL_machines R k n Q 820 ls' st' h) : z_J Z mL_machines R k n Q 818 ls st h := z_jr bL_machines_818 bL_machines_818_ok hr g
theorem dL_machines_820 : decode cL_machines 820 = .ok (.if_icmp .eq 5, 3) := by decide +kernel
theorem iL_machines_820 (kt : x = y → z_J Z mL_machines R k n Q 825 ls st h) (kf : ¬ x = y → z_J Z mL_machines R k n Q 823 ls st h) : z_J Z mL_machines R k n Q 820 ls (.int y :: .int x :: st) h := z_ic_eq dL_machines_820 (tgt := 825) (by decide) rfl kt kf
def bL_machines_823 : zB := [(823, .iconst 0, 824, nI 0)]
theorem bL_machines_823_ok : z_ok cL_machines 823 bL_machines_823 824 = true := by decide +kernel
theorem iL_machines_823 (hr : z_run 18 bL_machines_823 ls st = some (ls', st')) (g : z_J Z mL_machines R k n Q 824 ls' st' h) : z_J Z mL_machines R k n Q 823 ls st h := z_jr bL_machines_823 bL_machines_823_ok hr g
theorem dL_machines_824 : decode cL_machines 824 = .ok (.ireturn, 1) := by decide +kernel
theorem iL_machines_824 (hz : narrow .boolean (.int x) = .int x) (hk : k ≤ R.cells) (hs : n ≤ R.slots) (hq : Q (.inl (some (.int x))) h) : z_J Z mL_machines R k n Q 824 ls [.int x] h := z_iret (ty := .boolean) dL_machines_824 rfl hz hk hs hq
def bL_machines_825 : zB := [(825, .iload 13, 827, nI 0), (827, .iload 14, 829, nI 0)]
theorem bL_machines_825_ok : z_ok cL_machines 825 bL_machines_825 829 = true := by decide +kernel
theorem iL_machines_825 (hr : z_run 18 bL_machines_825 ls st = some (ls', st')) (g : z_J Z mL_machines R k n Q 829 ls' st' h) : z_J Z mL_machines R k n Q 825 ls st h := z_jr bL_machines_825 bL_machines_825_ok hr g
theorem dL_machines_829 : decode cL_machines 829 = .ok (.if_icmp .ge 10, 3) := by decide +kernel
theorem iL_machines_829 (kt : y ≤ x → z_J Z mL_machines R k n Q 839 ls st h) (kf : ¬ y ≤ x → z_J Z mL_machines R k n Q 832 ls st h) : z_J Z mL_machines R k n Q 829 ls (.int y :: .int x :: st) h := z_ic_ge dL_machines_829 (tgt := 839) (by decide) rfl kt kf
def bL_machines_832 : zB := [(832, .iload 15, 834, nI 0), (834, .bipush 10, 836, nI 10)]
theorem bL_machines_832_ok : z_ok cL_machines 832 bL_machines_832 836 = true := by decide +kernel
theorem iL_machines_832 (hr : z_run 18 bL_machines_832 ls st = some (ls', st')) (g : z_J Z mL_machines R k n Q 836 ls' st' h) : z_J Z mL_machines R k n Q 832 ls st h := z_jr bL_machines_832 bL_machines_832_ok hr g
theorem dL_machines_836 : decode cL_machines 836 = .ok (.if_icmp .ne 26, 3) := by decide +kernel
theorem iL_machines_836 (kt : ¬ x = y → z_J Z mL_machines R k n Q 862 ls st h) (kf : x = y → z_J Z mL_machines R k n Q 839 ls st h) : z_J Z mL_machines R k n Q 836 ls (.int y :: .int x :: st) h := z_ic_ne dL_machines_836 (tgt := 862) (by decide) rfl kt kf
def bL_machines_839 : zB := [(839, .aload_n 0, 840, nI 0), (840, .iload 9, 842, nI 0), (842, .iload 11, 844, nI 0), (844, .iload 16, 846, nI 0), (846, .iload 14, 848, nI 0)]
theorem bL_machines_839_ok : z_ok cL_machines 839 bL_machines_839 848 = true := by decide +kernel
theorem iL_machines_839 (hr : z_run 18 bL_machines_839 ls st = some (ls', st')) (g : z_J Z mL_machines R k n Q 848 ls' st' h) : z_J Z mL_machines R k n Q 839 ls st h := z_jr bL_machines_839 bL_machines_839_ok hr g
theorem dL_machines_848 : decode cL_machines 848 = .ok (.invokestatic 109, 3) := by decide +kernel
theorem iL_machines_848 (ha : z_args 5 st [] = some (As, rest)) (hc : z_chk rest As 7 = true) (hR : z_rm R R' 7 k n) (gc : z_J Z mL_install R' 0 0 Q' 0 As [] h) (kr : ∀ (v : Option Value) (h' : zH), Q' (.inl v) h' → z_J Z mL_machines R (k + R'.cells) (n + R'.slots) Q 851 ls (v.toList ++ rest) h') (kx : ∀ (E : String) (h' : zH), Q' (.inr E) h' → z_JX Z mL_machines R (k + R'.cells) (n + R'.slots) Q 848 ls E h') : z_J Z mL_machines R k n Q 848 ls st h := z_callS (M' := mL_install) dL_machines_848 rfl cs_L_109 gw489 ha hR (z_chk1 hc) (z_chk2 hc) (z_chk3 hc) gc kr kx
def bL_machines_851 : zB := [(851, .bipush (-73), 853, -73)]
theorem bL_machines_851_ok : z_ok cL_machines 851 bL_machines_851 853 = true := by decide +kernel
theorem iL_machines_851 (hr : z_run 18 bL_machines_851 ls st = some (ls', st')) (g : z_J Z mL_machines R k n Q 853 ls' st' h) : z_J Z mL_machines R k n Q 851 ls st h := z_jr bL_machines_851 bL_machines_851_ok hr g
theorem dL_machines_853 : decode cL_machines 853 = .ok (.if_icmp .ne 7, 3) := by decide +kernel
theorem iL_machines_853 (kt : ¬ x = y → z_J Z mL_machines R k n Q 860 ls st h) (kf : x = y → z_J Z mL_machines R k n Q 856 ls st h) : z_J Z mL_machines R k n Q 853 ls (.int y :: .int x :: st) h := z_ic_ne dL_machines_853 (tgt := 860) (by decide) rfl kt kf
def bL_machines_856 : zB := [(856, .iconst 1, 857, nI 1), (857, .goto 4, 861, nI 0)]
theorem bL_machines_856_ok : z_ok cL_machines 856 bL_machines_856 861 = true := by decide +kernel
theorem iL_machines_856 (hr : z_run 18 bL_machines_856 ls st = some (ls', st')) (g : z_J Z mL_machines R k n Q 861 ls' st' h) : z_J Z mL_machines R k n Q 856 ls st h := z_jr bL_machines_856 bL_machines_856_ok hr g
def bL_machines_860 : zB := [(860, .iconst 0, 861, nI 0)]
theorem bL_machines_860_ok : z_ok cL_machines 860 bL_machines_860 861 = true := by decide +kernel
theorem iL_machines_860 (hr : z_run 18 bL_machines_860 ls st = some (ls', st')) (g : z_J Z mL_machines R k n Q 861 ls' st' h) : z_J Z mL_machines R k n Q 860 ls st h := z_jr bL_machines_860 bL_machines_860_ok hr g
theorem dL_machines_861 : decode cL_machines 861 = .ok (.ireturn, 1) := by decide +kernel
theorem iL_machines_861 (hz : narrow .boolean (.int x) = .int x) (hk : k ≤ R.cells) (hs : n ≤ R.slots) (hq : Q (.inl (some (.int x))) h) : z_J Z mL_machines R k n Q 861 ls [.int x] h := z_iret (ty := .boolean) dL_machines_861 rfl hz hk hs hq
def bL_machines_862 : zB := [(862, .aload 7, 864, nI 0), (864, .aload 8, 866, nI 0), (866, .iconst 3, 867, nI 3)]
theorem bL_machines_862_ok : z_ok cL_machines 862 bL_machines_862 867 = true := by decide +kernel
theorem iL_machines_862 (hr : z_run 18 bL_machines_862 ls st = some (ls', st')) (g : z_J Z mL_machines R k n Q 867 ls' st' h) : z_J Z mL_machines R k n Q 862 ls st h := z_jr bL_machines_862 bL_machines_862_ok hr g
theorem dL_machines_867 : decode cL_machines 867 = .ok (.iaload, 1) := by decide +kernel
theorem iL_machines_867 {f : Nat → Int32} (hh : h r = some (a, .inl (0, N, .inl f))) (hi : i = nI j) (hj : j < N) (hN : N < 2 ^ 31) (g : z_J Z mL_machines R k n Q 868 ls (.int (f j) :: st) h) : z_J Z mL_machines R k n Q 867 ls (.int i :: .ref a :: st) h := z_iald dL_machines_867 rfl hh hi hj hN g
def bL_machines_868 : zB := [(868, .iload 14, 870, nI 0), (870, .sipush 1024, 873, nI 1024), (873, .iload 16, 875, nI 0), (875, .imul, 876, nI 0), (876, .iadd, 877, nI 0), (877, .sipush 16384, 880, nI 16384), (880, .iload 9, 882, nI 0), (882, .bipush 8, 884, nI 8), (884, .iload 11, 886, nI 0), (886, .imul, 887, nI 0), (887, .iadd, 888, nI 0), (888, .imul, 889, nI 0), (889, .iadd, 890, nI 0)]
theorem bL_machines_868_ok : z_ok cL_machines 868 bL_machines_868 890 = true := by decide +kernel
theorem iL_machines_868 (hr : z_run 18 bL_machines_868 ls st = some (ls', st')) (g : z_J Z mL_machines R k n Q 890 ls' st' h) : z_J Z mL_machines R k n Q 868 ls st h := z_jr bL_machines_868 bL_machines_868_ok hr g
theorem dL_machines_890 : decode cL_machines 890 = .ok (.iastore, 1) := by decide +kernel
theorem iL_machines_890 {f : Nat → Int32} (hh : h r = some (a, .inl (0, N, .inl f))) (hi : i = nI j) (hj : j < N) (hN : N < 2 ^ 31) (g : z_J Z mL_machines R k n Q 891 ls st (z_u h r (a, .inl (0, N, .inl (upd f j x))))) : z_J Z mL_machines R k n Q 890 ls (.int x :: .int i :: .ref a :: st) h := z_iast dL_machines_890 rfl hh hi hj hN g
def bL_machines_891 : zB := [(891, .aload 8, 893, nI 0), (893, .iconst 3, 894, nI 3), (894, .dup2, 895, nI 0)]
theorem bL_machines_891_ok : z_ok cL_machines 891 bL_machines_891 895 = true := by decide +kernel
theorem iL_machines_891 (hr : z_run 18 bL_machines_891 ls st = some (ls', st')) (g : z_J Z mL_machines R k n Q 895 ls' st' h) : z_J Z mL_machines R k n Q 891 ls st h := z_jr bL_machines_891 bL_machines_891_ok hr g
theorem dL_machines_895 : decode cL_machines 895 = .ok (.iaload, 1) := by decide +kernel
theorem iL_machines_895 {f : Nat → Int32} (hh : h r = some (a, .inl (0, N, .inl f))) (hi : i = nI j) (hj : j < N) (hN : N < 2 ^ 31) (g : z_J Z mL_machines R k n Q 896 ls (.int (f j) :: st) h) : z_J Z mL_machines R k n Q 895 ls (.int i :: .ref a :: st) h := z_iald dL_machines_895 rfl hh hi hj hN g
def bL_machines_896 : zB := [(896, .iconst 1, 897, nI 1), (897, .iadd, 898, nI 0)]
theorem bL_machines_896_ok : z_ok cL_machines 896 bL_machines_896 898 = true := by decide +kernel
theorem iL_machines_896 (hr : z_run 18 bL_machines_896 ls st = some (ls', st')) (g : z_J Z mL_machines R k n Q 898 ls' st' h) : z_J Z mL_machines R k n Q 896 ls st h := z_jr bL_machines_896 bL_machines_896_ok hr g
theorem dL_machines_898 : decode cL_machines 898 = .ok (.iastore, 1) := by decide +kernel
theorem iL_machines_898 {f : Nat → Int32} (hh : h r = some (a, .inl (0, N, .inl f))) (hi : i = nI j) (hj : j < N) (hN : N < 2 ^ 31) (g : z_J Z mL_machines R k n Q 899 ls st (z_u h r (a, .inl (0, N, .inl (upd f j x))))) : z_J Z mL_machines R k n Q 898 ls (.int x :: .int i :: .ref a :: st) h := z_iast dL_machines_898 rfl hh hi hj hN g
def bL_machines_899 : zB := [(899, .aload_n 0, 900, nI 0), (900, .iload 9, 902, nI 0), (902, .iload 11, 904, nI 0), (904, .iload 16, 906, nI 0), (906, .iload 14, 908, nI 0)]
theorem bL_machines_899_ok : z_ok cL_machines 899 bL_machines_899 908 = true := by decide +kernel
theorem iL_machines_899 (hr : z_run 18 bL_machines_899 ls st = some (ls', st')) (g : z_J Z mL_machines R k n Q 908 ls' st' h) : z_J Z mL_machines R k n Q 899 ls st h := z_jr bL_machines_899 bL_machines_899_ok hr g
theorem dL_machines_908 : decode cL_machines 908 = .ok (.invokestatic 109, 3) := by decide +kernel
theorem iL_machines_908 (ha : z_args 5 st [] = some (As, rest)) (hc : z_chk rest As 7 = true) (hR : z_rm R R' 7 k n) (gc : z_J Z mL_install R' 0 0 Q' 0 As [] h) (kr : ∀ (v : Option Value) (h' : zH), Q' (.inl v) h' → z_J Z mL_machines R (k + R'.cells) (n + R'.slots) Q 911 ls (v.toList ++ rest) h') (kx : ∀ (E : String) (h' : zH), Q' (.inr E) h' → z_JX Z mL_machines R (k + R'.cells) (n + R'.slots) Q 908 ls E h') : z_J Z mL_machines R k n Q 908 ls st h := z_callS (M' := mL_install) dL_machines_908 rfl cs_L_109 gw489 ha hR (z_chk1 hc) (z_chk2 hc) (z_chk3 hc) gc kr kx
def bL_machines_911 : zB := [(911, .iload 15, 913, nI 0), (913, .iconst 1, 914, nI 1), (914, .iadd, 915, nI 0)]
theorem bL_machines_911_ok : z_ok cL_machines 911 bL_machines_911 915 = true := by decide +kernel
theorem iL_machines_911 (hr : z_run 18 bL_machines_911 ls st = some (ls', st')) (g : z_J Z mL_machines R k n Q 915 ls' st' h) : z_J Z mL_machines R k n Q 911 ls st h := z_jr bL_machines_911 bL_machines_911_ok hr g
theorem dL_machines_915 : decode cL_machines 915 = .ok (.if_icmp .ne 7, 3) := by decide +kernel
theorem iL_machines_915 (kt : ¬ x = y → z_J Z mL_machines R k n Q 922 ls st h) (kf : x = y → z_J Z mL_machines R k n Q 918 ls st h) : z_J Z mL_machines R k n Q 915 ls (.int y :: .int x :: st) h := z_ic_ne dL_machines_915 (tgt := 922) (by decide) rfl kt kf
def bL_machines_918 : zB := [(918, .iconst 1, 919, nI 1), (919, .goto 4, 923, nI 0)]
theorem bL_machines_918_ok : z_ok cL_machines 918 bL_machines_918 923 = true := by decide +kernel
theorem iL_machines_918 (hr : z_run 18 bL_machines_918 ls st = some (ls', st')) (g : z_J Z mL_machines R k n Q 923 ls' st' h) : z_J Z mL_machines R k n Q 918 ls st h := z_jr bL_machines_918 bL_machines_918_ok hr g
def bL_machines_922 : zB := [(922, .iconst 0, 923, nI 0)]
theorem bL_machines_922_ok : z_ok cL_machines 922 bL_machines_922 923 = true := by decide +kernel
theorem iL_machines_922 (hr : z_run 18 bL_machines_922 ls st = some (ls', st')) (g : z_J Z mL_machines R k n Q 923 ls' st' h) : z_J Z mL_machines R k n Q 922 ls st h := z_jr bL_machines_922 bL_machines_922_ok hr g
theorem dL_machines_923 : decode cL_machines 923 = .ok (.ireturn, 1) := by decide +kernel
theorem iL_machines_923 (hz : narrow .boolean (.int x) = .int x) (hk : k ≤ R.cells) (hs : n ≤ R.slots) (hq : Q (.inl (some (.int x))) h) : z_J Z mL_machines R k n Q 923 ls [.int x] h := z_iret (ty := .boolean) dL_machines_923 rfl hz hk hs hq
def bL_machines_924 : zB := [(924, .iload 12, 926, nI 0)]
theorem bL_machines_924_ok : z_ok cL_machines 924 bL_machines_924 926 = true := by decide +kernel
theorem iL_machines_924 (hr : z_run 18 bL_machines_924 ls st = some (ls', st')) (g : z_J Z mL_machines R k n Q 926 ls' st' h) : z_J Z mL_machines R k n Q 924 ls st h := z_jr bL_machines_924 bL_machines_924_ok hr g
theorem dL_machines_926 : decode cL_machines 926 = .ok (.ifCond .ge 7, 3) := by decide +kernel
theorem iL_machines_926 (kt : 0 ≤ x → z_J Z mL_machines R k n Q 933 ls st h) (kf : ¬ 0 ≤ x → z_J Z mL_machines R k n Q 929 ls st h) : z_J Z mL_machines R k n Q 926 ls (.int x :: st) h := z_if_ge dL_machines_926 (tgt := 933) (by decide) rfl kt kf
def bL_machines_929 : zB := [(929, .iconst 0, 930, nI 0), (930, .goto 14, 944, nI 0)]
theorem bL_machines_929_ok : z_ok cL_machines 929 bL_machines_929 944 = true := by decide +kernel
theorem iL_machines_929 (hr : z_run 18 bL_machines_929 ls st = some (ls', st')) (g : z_J Z mL_machines R k n Q 944 ls' st' h) : z_J Z mL_machines R k n Q 929 ls st h := z_jr bL_machines_929 bL_machines_929_ok hr g
def bL_machines_933 : zB := [(933, .aload 7, 935, nI 0), (935, .iload 12, 937, nI 0)]
theorem bL_machines_933_ok : z_ok cL_machines 933 bL_machines_933 937 = true := by decide +kernel
theorem iL_machines_933 (hr : z_run 18 bL_machines_933 ls st = some (ls', st')) (g : z_J Z mL_machines R k n Q 937 ls' st' h) : z_J Z mL_machines R k n Q 933 ls st h := z_jr bL_machines_933 bL_machines_933_ok hr g
theorem dL_machines_937 : decode cL_machines 937 = .ok (.iaload, 1) := by decide +kernel
theorem iL_machines_937 {f : Nat → Int32} (hh : h r = some (a, .inl (0, N, .inl f))) (hi : i = nI j) (hj : j < N) (hN : N < 2 ^ 31) (g : z_J Z mL_machines R k n Q 938 ls (.int (f j) :: st) h) : z_J Z mL_machines R k n Q 937 ls (.int i :: .ref a :: st) h := z_iald dL_machines_937 rfl hh hi hj hN g
def bL_machines_938 : zB := [(938, .bipush 10, 940, nI 10), (940, .ishr, 941, nI 0), (941, .bipush 15, 943, nI 15), (943, .iand, 944, nI 0)]
theorem bL_machines_938_ok : z_ok cL_machines 938 bL_machines_938 944 = true := by decide +kernel
theorem iL_machines_938 (hr : z_run 18 bL_machines_938 ls st = some (ls', st')) (g : z_J Z mL_machines R k n Q 944 ls' st' h) : z_J Z mL_machines R k n Q 938 ls st h := z_jr bL_machines_938 bL_machines_938_ok hr g
def bL_machines_944 : zB := [(944, .istore 17, 946, nI 0), (946, .aload_n 0, 947, nI 0), (947, .iload 9, 949, nI 0), (949, .iconst (-1), 950, -1), (950, .iconst 0, 951, nI 0)]
theorem bL_machines_944_ok : z_ok cL_machines 944 bL_machines_944 951 = true := by decide +kernel
theorem iL_machines_944 (hr : z_run 18 bL_machines_944 ls st = some (ls', st')) (g : z_J Z mL_machines R k n Q 951 ls' st' h) : z_J Z mL_machines R k n Q 944 ls st h := z_jr bL_machines_944 bL_machines_944_ok hr g
theorem dL_machines_951 : decode cL_machines 951 = .ok (.invokestatic 112, 3) := by decide +kernel
theorem iL_machines_951 (ha : z_args 4 st [] = some (As, rest)) (hc : z_chk rest As 6 = true) (hR : z_rm R R' 6 k n) (gc : z_J Z mL_uninstall R' 0 0 Q' 0 As [] h) (kr : ∀ (v : Option Value) (h' : zH), Q' (.inl v) h' → z_J Z mL_machines R (k + R'.cells) (n + R'.slots) Q 954 ls (v.toList ++ rest) h') (kx : ∀ (E : String) (h' : zH), Q' (.inr E) h' → z_JX Z mL_machines R (k + R'.cells) (n + R'.slots) Q 951 ls E h') : z_J Z mL_machines R k n Q 951 ls st h := z_callS (M' := mL_uninstall) dL_machines_951 rfl cs_L_112 gw525 ha hR (z_chk1 hc) (z_chk2 hc) (z_chk3 hc) gc kr kx
def bL_machines_954 : zB := [(954, .bipush (-71), 956, -71)]
theorem bL_machines_954_ok : z_ok cL_machines 954 bL_machines_954 956 = true := by decide +kernel
theorem iL_machines_954 (hr : z_run 18 bL_machines_954 ls st = some (ls', st')) (g : z_J Z mL_machines R k n Q 956 ls' st' h) : z_J Z mL_machines R k n Q 954 ls st h := z_jr bL_machines_954 bL_machines_954_ok hr g
theorem dL_machines_956 : decode cL_machines 956 = .ok (.if_icmp .ne 33, 3) := by decide +kernel
theorem iL_machines_956 (kt : ¬ x = y → z_J Z mL_machines R k n Q 989 ls st h) (kf : x = y → z_J Z mL_machines R k n Q 959 ls st h) : z_J Z mL_machines R k n Q 956 ls (.int y :: .int x :: st) h := z_ic_ne dL_machines_956 (tgt := 989) (by decide) rfl kt kf
def bL_machines_959 : zB := [(959, .aload_n 0, 960, nI 0), (960, .iload 9, 962, nI 0), (962, .iload 11, 964, nI 0), (964, .sipush 721, 967, nI 721)]
theorem bL_machines_959_ok : z_ok cL_machines 959 bL_machines_959 967 = true := by decide +kernel
theorem iL_machines_959 (hr : z_run 18 bL_machines_959 ls st = some (ls', st')) (g : z_J Z mL_machines R k n Q 967 ls' st' h) : z_J Z mL_machines R k n Q 959 ls st h := z_jr bL_machines_959 bL_machines_959_ok hr g
theorem dL_machines_967 : decode cL_machines 967 = .ok (.invokestatic 112, 3) := by decide +kernel
theorem iL_machines_967 (ha : z_args 4 st [] = some (As, rest)) (hc : z_chk rest As 6 = true) (hR : z_rm R R' 6 k n) (gc : z_J Z mL_uninstall R' 0 0 Q' 0 As [] h) (kr : ∀ (v : Option Value) (h' : zH), Q' (.inl v) h' → z_J Z mL_machines R (k + R'.cells) (n + R'.slots) Q 970 ls (v.toList ++ rest) h') (kx : ∀ (E : String) (h' : zH), Q' (.inr E) h' → z_JX Z mL_machines R (k + R'.cells) (n + R'.slots) Q 967 ls E h') : z_J Z mL_machines R k n Q 967 ls st h := z_callS (M' := mL_uninstall) dL_machines_967 rfl cs_L_112 gw525 ha hR (z_chk1 hc) (z_chk2 hc) (z_chk3 hc) gc kr kx
def bL_machines_970 : zB := [(970, .bipush (-72), 972, -72)]
theorem bL_machines_970_ok : z_ok cL_machines 970 bL_machines_970 972 = true := by decide +kernel
theorem iL_machines_970 (hr : z_run 18 bL_machines_970 ls st = some (ls', st')) (g : z_J Z mL_machines R k n Q 972 ls' st' h) : z_J Z mL_machines R k n Q 970 ls st h := z_jr bL_machines_970 bL_machines_970_ok hr g
theorem dL_machines_972 : decode cL_machines 972 = .ok (.if_icmp .ne 17, 3) := by decide +kernel
theorem iL_machines_972 (kt : ¬ x = y → z_J Z mL_machines R k n Q 989 ls st h) (kf : x = y → z_J Z mL_machines R k n Q 975 ls st h) : z_J Z mL_machines R k n Q 972 ls (.int y :: .int x :: st) h := z_ic_ne dL_machines_972 (tgt := 989) (by decide) rfl kt kf
def bL_machines_975 : zB := [(975, .aload_n 0, 976, nI 0), (976, .iload 9, 978, nI 0), (978, .iload 11, 980, nI 0), (980, .iconst (-1), 981, -1)]
theorem bL_machines_975_ok : z_ok cL_machines 975 bL_machines_975 981 = true := by decide +kernel
theorem iL_machines_975 (hr : z_run 18 bL_machines_975 ls st = some (ls', st')) (g : z_J Z mL_machines R k n Q 981 ls' st' h) : z_J Z mL_machines R k n Q 975 ls st h := z_jr bL_machines_975 bL_machines_975_ok hr g
theorem dL_machines_981 : decode cL_machines 981 = .ok (.invokestatic 112, 3) := by decide +kernel
theorem iL_machines_981 (ha : z_args 4 st [] = some (As, rest)) (hc : z_chk rest As 6 = true) (hR : z_rm R R' 6 k n) (gc : z_J Z mL_uninstall R' 0 0 Q' 0 As [] h) (kr : ∀ (v : Option Value) (h' : zH), Q' (.inl v) h' → z_J Z mL_machines R (k + R'.cells) (n + R'.slots) Q 984 ls (v.toList ++ rest) h') (kx : ∀ (E : String) (h' : zH), Q' (.inr E) h' → z_JX Z mL_machines R (k + R'.cells) (n + R'.slots) Q 981 ls E h') : z_J Z mL_machines R k n Q 981 ls st h := z_callS (M' := mL_uninstall) dL_machines_981 rfl cs_L_112 gw525 ha hR (z_chk1 hc) (z_chk2 hc) (z_chk3 hc) gc kr kx
def bL_machines_984 : zB := [(984, .bipush (-72), 986, -72)]
theorem bL_machines_984_ok : z_ok cL_machines 984 bL_machines_984 986 = true := by decide +kernel
theorem iL_machines_984 (hr : z_run 18 bL_machines_984 ls st = some (ls', st')) (g : z_J Z mL_machines R k n Q 986 ls' st' h) : z_J Z mL_machines R k n Q 984 ls st h := z_jr bL_machines_984 bL_machines_984_ok hr g
theorem dL_machines_986 : decode cL_machines 986 = .ok (.if_icmp .eq 5, 3) := by decide +kernel
theorem iL_machines_986 (kt : x = y → z_J Z mL_machines R k n Q 991 ls st h) (kf : ¬ x = y → z_J Z mL_machines R k n Q 989 ls st h) : z_J Z mL_machines R k n Q 986 ls (.int y :: .int x :: st) h := z_ic_eq dL_machines_986 (tgt := 991) (by decide) rfl kt kf
def bL_machines_989 : zB := [(989, .iconst 0, 990, nI 0)]
theorem bL_machines_989_ok : z_ok cL_machines 989 bL_machines_989 990 = true := by decide +kernel
theorem iL_machines_989 (hr : z_run 18 bL_machines_989 ls st = some (ls', st')) (g : z_J Z mL_machines R k n Q 990 ls' st' h) : z_J Z mL_machines R k n Q 989 ls st h := z_jr bL_machines_989 bL_machines_989_ok hr g
theorem dL_machines_990 : decode cL_machines 990 = .ok (.ireturn, 1) := by decide +kernel
theorem iL_machines_990 (hz : narrow .boolean (.int x) = .int x) (hk : k ≤ R.cells) (hs : n ≤ R.slots) (hq : Q (.inl (some (.int x))) h) : z_J Z mL_machines R k n Q 990 ls [.int x] h := z_iret (ty := .boolean) dL_machines_990 rfl hz hk hs hq
def bL_machines_991 : zB := [(991, .iload 17, 993, nI 0)]
theorem bL_machines_991_ok : z_ok cL_machines 991 bL_machines_991 993 = true := by decide +kernel
theorem iL_machines_991 (hr : z_run 18 bL_machines_991 ls st = some (ls', st')) (g : z_J Z mL_machines R k n Q 993 ls' st' h) : z_J Z mL_machines R k n Q 991 ls st h := z_jr bL_machines_991 bL_machines_991_ok hr g
theorem dL_machines_993 : decode cL_machines 993 = .ok (.ifCond .eq 10, 3) := by decide +kernel
theorem iL_machines_993 (kt : x = 0 → z_J Z mL_machines R k n Q 1003 ls st h) (kf : ¬ x = 0 → z_J Z mL_machines R k n Q 996 ls st h) : z_J Z mL_machines R k n Q 993 ls (.int x :: st) h := z_if_eq dL_machines_993 (tgt := 1003) (by decide) rfl kt kf
def bL_machines_996 : zB := [(996, .iload 13, 998, nI 0), (998, .iload 14, 1000, nI 0)]
theorem bL_machines_996_ok : z_ok cL_machines 996 bL_machines_996 1000 = true := by decide +kernel
theorem iL_machines_996 (hr : z_run 18 bL_machines_996 ls st = some (ls', st')) (g : z_J Z mL_machines R k n Q 1000 ls' st' h) : z_J Z mL_machines R k n Q 996 ls st h := z_jr bL_machines_996 bL_machines_996_ok hr g
theorem dL_machines_1000 : decode cL_machines 1000 = .ok (.if_icmp .lt 24, 3) := by decide +kernel
theorem iL_machines_1000 (kt : x < y → z_J Z mL_machines R k n Q 1024 ls st h) (kf : ¬ x < y → z_J Z mL_machines R k n Q 1003 ls st h) : z_J Z mL_machines R k n Q 1000 ls (.int y :: .int x :: st) h := z_ic_lt dL_machines_1000 (tgt := 1024) (by decide) rfl kt kf
def bL_machines_1003 : zB := [(1003, .aload_n 0, 1004, nI 0), (1004, .iload 9, 1006, nI 0), (1006, .iload 11, 1008, nI 0), (1008, .iload 14, 1010, nI 0)]
theorem bL_machines_1003_ok : z_ok cL_machines 1003 bL_machines_1003 1010 = true := by decide +kernel
theorem iL_machines_1003 (hr : z_run 18 bL_machines_1003 ls st = some (ls', st')) (g : z_J Z mL_machines R k n Q 1010 ls' st' h) : z_J Z mL_machines R k n Q 1003 ls st h := z_jr bL_machines_1003 bL_machines_1003_ok hr g
theorem dL_machines_1010 : decode cL_machines 1010 = .ok (.invokestatic 112, 3) := by decide +kernel
theorem iL_machines_1010 (ha : z_args 4 st [] = some (As, rest)) (hc : z_chk rest As 6 = true) (hR : z_rm R R' 6 k n) (gc : z_J Z mL_uninstall R' 0 0 Q' 0 As [] h) (kr : ∀ (v : Option Value) (h' : zH), Q' (.inl v) h' → z_J Z mL_machines R (k + R'.cells) (n + R'.slots) Q 1013 ls (v.toList ++ rest) h') (kx : ∀ (E : String) (h' : zH), Q' (.inr E) h' → z_JX Z mL_machines R (k + R'.cells) (n + R'.slots) Q 1010 ls E h') : z_J Z mL_machines R k n Q 1010 ls st h := z_callS (M' := mL_uninstall) dL_machines_1010 rfl cs_L_112 gw525 ha hR (z_chk1 hc) (z_chk2 hc) (z_chk3 hc) gc kr kx
def bL_machines_1013 : zB := [(1013, .bipush (-73), 1015, -73)]
theorem bL_machines_1013_ok : z_ok cL_machines 1013 bL_machines_1013 1015 = true := by decide +kernel
theorem iL_machines_1013 (hr : z_run 18 bL_machines_1013 ls st = some (ls', st')) (g : z_J Z mL_machines R k n Q 1015 ls' st' h) : z_J Z mL_machines R k n Q 1013 ls st h := z_jr bL_machines_1013 bL_machines_1013_ok hr g
theorem dL_machines_1015 : decode cL_machines 1015 = .ok (.if_icmp .ne 7, 3) := by decide +kernel
theorem iL_machines_1015 (kt : ¬ x = y → z_J Z mL_machines R k n Q 1022 ls st h) (kf : x = y → z_J Z mL_machines R k n Q 1018 ls st h) : z_J Z mL_machines R k n Q 1015 ls (.int y :: .int x :: st) h := z_ic_ne dL_machines_1015 (tgt := 1022) (by decide) rfl kt kf
def bL_machines_1018 : zB := [(1018, .iconst 1, 1019, nI 1), (1019, .goto 4, 1023, nI 0)]
theorem bL_machines_1018_ok : z_ok cL_machines 1018 bL_machines_1018 1023 = true := by decide +kernel
theorem iL_machines_1018 (hr : z_run 18 bL_machines_1018 ls st = some (ls', st')) (g : z_J Z mL_machines R k n Q 1023 ls' st' h) : z_J Z mL_machines R k n Q 1018 ls st h := z_jr bL_machines_1018 bL_machines_1018_ok hr g
def bL_machines_1022 : zB := [(1022, .iconst 0, 1023, nI 0)]
theorem bL_machines_1022_ok : z_ok cL_machines 1022 bL_machines_1022 1023 = true := by decide +kernel
theorem iL_machines_1022 (hr : z_run 18 bL_machines_1022 ls st = some (ls', st')) (g : z_J Z mL_machines R k n Q 1023 ls' st' h) : z_J Z mL_machines R k n Q 1022 ls st h := z_jr bL_machines_1022 bL_machines_1022_ok hr g
theorem dL_machines_1023 : decode cL_machines 1023 = .ok (.ireturn, 1) := by decide +kernel
theorem iL_machines_1023 (hz : narrow .boolean (.int x) = .int x) (hk : k ≤ R.cells) (hs : n ≤ R.slots) (hq : Q (.inl (some (.int x))) h) : z_J Z mL_machines R k n Q 1023 ls [.int x] h := z_iret (ty := .boolean) dL_machines_1023 rfl hz hk hs hq
def bL_machines_1024 : zB := [(1024, .aload 7, 1026, nI 0), (1026, .aload 8, 1028, nI 0), (1028, .iconst 3, 1029, nI 3)]
theorem bL_machines_1024_ok : z_ok cL_machines 1024 bL_machines_1024 1029 = true := by decide +kernel
theorem iL_machines_1024 (hr : z_run 18 bL_machines_1024 ls st = some (ls', st')) (g : z_J Z mL_machines R k n Q 1029 ls' st' h) : z_J Z mL_machines R k n Q 1024 ls st h := z_jr bL_machines_1024 bL_machines_1024_ok hr g
theorem dL_machines_1029 : decode cL_machines 1029 = .ok (.iaload, 1) := by decide +kernel
theorem iL_machines_1029 {f : Nat → Int32} (hh : h r = some (a, .inl (0, N, .inl f))) (hi : i = nI j) (hj : j < N) (hN : N < 2 ^ 31) (g : z_J Z mL_machines R k n Q 1030 ls (.int (f j) :: st) h) : z_J Z mL_machines R k n Q 1029 ls (.int i :: .ref a :: st) h := z_iald dL_machines_1029 rfl hh hi hj hN g
def bL_machines_1030 : zB := [(1030, .iload 14, 1032, nI 0), (1032, .sipush 16384, 1035, nI 16384), (1035, .iload 9, 1037, nI 0), (1037, .bipush 8, 1039, nI 8), (1039, .iload 11, 1041, nI 0), (1041, .imul, 1042, nI 0), (1042, .iadd, 1043, nI 0), (1043, .imul, 1044, nI 0), (1044, .iadd, 1045, nI 0)]
theorem bL_machines_1030_ok : z_ok cL_machines 1030 bL_machines_1030 1045 = true := by decide +kernel
theorem iL_machines_1030 (hr : z_run 18 bL_machines_1030 ls st = some (ls', st')) (g : z_J Z mL_machines R k n Q 1045 ls' st' h) : z_J Z mL_machines R k n Q 1030 ls st h := z_jr bL_machines_1030 bL_machines_1030_ok hr g
theorem dL_machines_1045 : decode cL_machines 1045 = .ok (.iastore, 1) := by decide +kernel
theorem iL_machines_1045 {f : Nat → Int32} (hh : h r = some (a, .inl (0, N, .inl f))) (hi : i = nI j) (hj : j < N) (hN : N < 2 ^ 31) (g : z_J Z mL_machines R k n Q 1046 ls st (z_u h r (a, .inl (0, N, .inl (upd f j x))))) : z_J Z mL_machines R k n Q 1045 ls (.int x :: .int i :: .ref a :: st) h := z_iast dL_machines_1045 rfl hh hi hj hN g
def bL_machines_1046 : zB := [(1046, .aload 8, 1048, nI 0), (1048, .iconst 3, 1049, nI 3), (1049, .dup2, 1050, nI 0)]
theorem bL_machines_1046_ok : z_ok cL_machines 1046 bL_machines_1046 1050 = true := by decide +kernel
theorem iL_machines_1046 (hr : z_run 18 bL_machines_1046 ls st = some (ls', st')) (g : z_J Z mL_machines R k n Q 1050 ls' st' h) : z_J Z mL_machines R k n Q 1046 ls st h := z_jr bL_machines_1046 bL_machines_1046_ok hr g
theorem dL_machines_1050 : decode cL_machines 1050 = .ok (.iaload, 1) := by decide +kernel
theorem iL_machines_1050 {f : Nat → Int32} (hh : h r = some (a, .inl (0, N, .inl f))) (hi : i = nI j) (hj : j < N) (hN : N < 2 ^ 31) (g : z_J Z mL_machines R k n Q 1051 ls (.int (f j) :: st) h) : z_J Z mL_machines R k n Q 1050 ls (.int i :: .ref a :: st) h := z_iald dL_machines_1050 rfl hh hi hj hN g
def bL_machines_1051 : zB := [(1051, .iconst 1, 1052, nI 1), (1052, .iadd, 1053, nI 0)]
theorem bL_machines_1051_ok : z_ok cL_machines 1051 bL_machines_1051 1053 = true := by decide +kernel
theorem iL_machines_1051 (hr : z_run 18 bL_machines_1051 ls st = some (ls', st')) (g : z_J Z mL_machines R k n Q 1053 ls' st' h) : z_J Z mL_machines R k n Q 1051 ls st h := z_jr bL_machines_1051 bL_machines_1051_ok hr g
theorem dL_machines_1053 : decode cL_machines 1053 = .ok (.iastore, 1) := by decide +kernel
theorem iL_machines_1053 {f : Nat → Int32} (hh : h r = some (a, .inl (0, N, .inl f))) (hi : i = nI j) (hj : j < N) (hN : N < 2 ^ 31) (g : z_J Z mL_machines R k n Q 1054 ls st (z_u h r (a, .inl (0, N, .inl (upd f j x))))) : z_J Z mL_machines R k n Q 1053 ls (.int x :: .int i :: .ref a :: st) h := z_iast dL_machines_1053 rfl hh hi hj hN g
def bL_machines_1054 : zB := [(1054, .aload_n 0, 1055, nI 0), (1055, .iload 9, 1057, nI 0), (1057, .iload 11, 1059, nI 0), (1059, .iload 14, 1061, nI 0)]
theorem bL_machines_1054_ok : z_ok cL_machines 1054 bL_machines_1054 1061 = true := by decide +kernel
theorem iL_machines_1054 (hr : z_run 18 bL_machines_1054 ls st = some (ls', st')) (g : z_J Z mL_machines R k n Q 1061 ls' st' h) : z_J Z mL_machines R k n Q 1054 ls st h := z_jr bL_machines_1054 bL_machines_1054_ok hr g
theorem dL_machines_1061 : decode cL_machines 1061 = .ok (.invokestatic 112, 3) := by decide +kernel
theorem iL_machines_1061 (ha : z_args 4 st [] = some (As, rest)) (hc : z_chk rest As 6 = true) (hR : z_rm R R' 6 k n) (gc : z_J Z mL_uninstall R' 0 0 Q' 0 As [] h) (kr : ∀ (v : Option Value) (h' : zH), Q' (.inl v) h' → z_J Z mL_machines R (k + R'.cells) (n + R'.slots) Q 1064 ls (v.toList ++ rest) h') (kx : ∀ (E : String) (h' : zH), Q' (.inr E) h' → z_JX Z mL_machines R (k + R'.cells) (n + R'.slots) Q 1061 ls E h') : z_J Z mL_machines R k n Q 1061 ls st h := z_callS (M' := mL_uninstall) dL_machines_1061 rfl cs_L_112 gw525 ha hR (z_chk1 hc) (z_chk2 hc) (z_chk3 hc) gc kr kx
def bL_machines_1064 : zB := [(1064, .iload 17, 1066, nI 0)]
theorem bL_machines_1064_ok : z_ok cL_machines 1064 bL_machines_1064 1066 = true := by decide +kernel
theorem iL_machines_1064 (hr : z_run 18 bL_machines_1064 ls st = some (ls', st')) (g : z_J Z mL_machines R k n Q 1066 ls' st' h) : z_J Z mL_machines R k n Q 1064 ls st h := z_jr bL_machines_1064 bL_machines_1064_ok hr g
theorem dL_machines_1066 : decode cL_machines 1066 = .ok (.if_icmp .ne 7, 3) := by decide +kernel
theorem iL_machines_1066 (kt : ¬ x = y → z_J Z mL_machines R k n Q 1073 ls st h) (kf : x = y → z_J Z mL_machines R k n Q 1069 ls st h) : z_J Z mL_machines R k n Q 1066 ls (.int y :: .int x :: st) h := z_ic_ne dL_machines_1066 (tgt := 1073) (by decide) rfl kt kf
def bL_machines_1069 : zB := [(1069, .iconst 1, 1070, nI 1), (1070, .goto 4, 1074, nI 0)]
theorem bL_machines_1069_ok : z_ok cL_machines 1069 bL_machines_1069 1074 = true := by decide +kernel
theorem iL_machines_1069 (hr : z_run 18 bL_machines_1069 ls st = some (ls', st')) (g : z_J Z mL_machines R k n Q 1074 ls' st' h) : z_J Z mL_machines R k n Q 1069 ls st h := z_jr bL_machines_1069 bL_machines_1069_ok hr g
def bL_machines_1073 : zB := [(1073, .iconst 0, 1074, nI 0)]
theorem bL_machines_1073_ok : z_ok cL_machines 1073 bL_machines_1073 1074 = true := by decide +kernel
theorem iL_machines_1073 (hr : z_run 18 bL_machines_1073 ls st = some (ls', st')) (g : z_J Z mL_machines R k n Q 1074 ls' st' h) : z_J Z mL_machines R k n Q 1073 ls st h := z_jr bL_machines_1073 bL_machines_1073_ok hr g
theorem dL_machines_1074 : decode cL_machines 1074 = .ok (.ireturn, 1) := by decide +kernel
theorem iL_machines_1074 (hz : narrow .boolean (.int x) = .int x) (hk : k ≤ R.cells) (hs : n ≤ R.slots) (hq : Q (.inl (some (.int x))) h) : z_J Z mL_machines R k n Q 1074 ls [.int x] h := z_iret (ty := .boolean) dL_machines_1074 rfl hz hk hs hq
/-! L_isDay -/
def bL_isDay_0 : zB := [(0, .iload_n 1, 1, nI 0), (1, .aload 4, 3, nI 0), (3, .aload 5, 5, nI 0), (5, .aload 6, 7, nI 0), (7, .aload 7, 9, nI 0), (9, .aload 8, 11, nI 0), (11, .aload 9, 13, nI 0), (13, .aload 10, 15, nI 0), (15, .aload 11, 17, nI 0), (17, .aload 12, 19, nI 0), (19, .aload 13, 21, nI 0)]
theorem bL_isDay_0_ok : z_ok cL_isDay 0 bL_isDay_0 21 = true := by decide +kernel
theorem iL_isDay_0 (hr : z_run 18 bL_isDay_0 ls st = some (ls', st')) (g : z_J Z mL_isDay R k n Q 21 ls' st' h) : z_J Z mL_isDay R k n Q 0 ls st h := z_jr bL_isDay_0 bL_isDay_0_ok hr g
theorem dL_isDay_21 : decode cL_isDay 21 = .ok (.invokestatic 119, 3) := by decide +kernel
theorem iL_isDay_21 (ha : z_args 11 st [] = some (As, rest)) (hc : z_chk rest As 16 = true) (hR : z_rm R R' 16 k n) (gc : z_J Z mL_lay R' 0 0 Q' 0 As [] h) (kr : ∀ (v : Option Value) (h' : zH), Q' (.inl v) h' → z_J Z mL_isDay R (k + R'.cells) (n + R'.slots) Q 24 ls (v.toList ++ rest) h') (kx : ∀ (E : String) (h' : zH), Q' (.inr E) h' → z_JX Z mL_isDay R (k + R'.cells) (n + R'.slots) Q 21 ls E h') : z_J Z mL_isDay R k n Q 21 ls st h := z_callS (M' := mL_lay) dL_isDay_21 rfl cs_L_119 gw565 ha hR (z_chk1 hc) (z_chk2 hc) (z_chk3 hc) gc kr kx
def bL_isDay_24 : zB := [(24, .aload_n 0, 25, nI 0), (25, .iload_n 1, 26, nI 0)]
theorem bL_isDay_24_ok : z_ok cL_isDay 24 bL_isDay_24 26 = true := by decide +kernel
theorem iL_isDay_24 (hr : z_run 18 bL_isDay_24 ls st = some (ls', st')) (g : z_J Z mL_isDay R k n Q 26 ls' st' h) : z_J Z mL_isDay R k n Q 24 ls st h := z_jr bL_isDay_24 bL_isDay_24_ok hr g
theorem dL_isDay_26 : decode cL_isDay 26 = .ok (.invokevirtual 123, 3) := by decide +kernel
theorem iL_isDay_26 (ha : z_args 1 st [] = some (As, .ref b :: rest)) (hc : z_chk rest (.ref b :: As) 2 = true) (hh : h r = some (b, .inr (6, fs))) (hR : z_rm R R' 2 k n) (gc : z_J Z mX5_needs R' 0 0 Q' 0 (.ref b :: As) [] h) (kr : ∀ (v : Option Value) (h' : zH), Q' (.inl v) h' → z_J Z mL_isDay R (k + R'.cells) (n + R'.slots) Q 29 ls (v.toList ++ rest) h') (kx : ∀ (E : String) (h' : zH), Q' (.inr E) h' → z_JX Z mL_isDay R (k + R'.cells) (n + R'.slots) Q 26 ls E h') : z_J Z mL_isDay R k n Q 26 ls st h := z_callV (M' := mX5_needs) dL_isDay_26 rfl cs_L_123 rfl gw610 gw611 ha hh (ci := 6) rfl hR (z_chk1 hc) (z_chk2 hc) (z_chk3 hc) gc kr kx
def bL_isDay_29 : zB := [(29, .aload 13, 31, nI 0), (31, .iconst 4, 32, nI 4)]
theorem bL_isDay_29_ok : z_ok cL_isDay 29 bL_isDay_29 32 = true := by decide +kernel
theorem iL_isDay_29 (hr : z_run 18 bL_isDay_29 ls st = some (ls', st')) (g : z_J Z mL_isDay R k n Q 32 ls' st' h) : z_J Z mL_isDay R k n Q 29 ls st h := z_jr bL_isDay_29 bL_isDay_29_ok hr g
theorem dL_isDay_32 : decode cL_isDay 32 = .ok (.iaload, 1) := by decide +kernel
theorem iL_isDay_32 {f : Nat → Int32} (hh : h r = some (a, .inl (0, N, .inl f))) (hi : i = nI j) (hj : j < N) (hN : N < 2 ^ 31) (g : z_J Z mL_isDay R k n Q 33 ls (.int (f j) :: st) h) : z_J Z mL_isDay R k n Q 32 ls (.int i :: .ref a :: st) h := z_iald dL_isDay_32 rfl hh hi hj hN g
theorem dL_isDay_33 : decode cL_isDay 33 = .ok (.if_icmp .ne 42, 3) := by decide +kernel
theorem iL_isDay_33 (kt : ¬ x = y → z_J Z mL_isDay R k n Q 75 ls st h) (kf : x = y → z_J Z mL_isDay R k n Q 36 ls st h) : z_J Z mL_isDay R k n Q 33 ls (.int y :: .int x :: st) h := z_ic_ne dL_isDay_33 (tgt := 75) (by decide) rfl kt kf
def bL_isDay_36 : zB := [(36, .aload_n 0, 37, nI 0), (37, .iload_n 1, 38, nI 0), (38, .aload 13, 40, nI 0), (40, .iconst 4, 41, nI 4)]
theorem bL_isDay_36_ok : z_ok cL_isDay 36 bL_isDay_36 41 = true := by decide +kernel
theorem iL_isDay_36 (hr : z_run 18 bL_isDay_36 ls st = some (ls', st')) (g : z_J Z mL_isDay R k n Q 41 ls' st' h) : z_J Z mL_isDay R k n Q 36 ls st h := z_jr bL_isDay_36 bL_isDay_36_ok hr g
theorem dL_isDay_41 : decode cL_isDay 41 = .ok (.iaload, 1) := by decide +kernel
theorem iL_isDay_41 {f : Nat → Int32} (hh : h r = some (a, .inl (0, N, .inl f))) (hi : i = nI j) (hj : j < N) (hN : N < 2 ^ 31) (g : z_J Z mL_isDay R k n Q 42 ls (.int (f j) :: st) h) : z_J Z mL_isDay R k n Q 41 ls (.int i :: .ref a :: st) h := z_iald dL_isDay_41 rfl hh hi hj hN g
theorem dL_isDay_42 : decode cL_isDay 42 = .ok (.invokestatic 126, 3) := by decide +kernel
theorem iL_isDay_42 (ha : z_args 3 st [] = some (As, rest)) (hc : z_chk rest As 5 = true) (hR : z_rm R R' 5 k n) (gc : z_J Z mL_need R' 0 0 Q' 0 As [] h) (kr : ∀ (v : Option Value) (h' : zH), Q' (.inl v) h' → z_J Z mL_isDay R (k + R'.cells) (n + R'.slots) Q 45 ls (v.toList ++ rest) h') (kx : ∀ (E : String) (h' : zH), Q' (.inr E) h' → z_JX Z mL_isDay R (k + R'.cells) (n + R'.slots) Q 42 ls E h') : z_J Z mL_isDay R k n Q 42 ls st h := z_callS (M' := mL_need) dL_isDay_42 rfl cs_L_126 gw614 ha hR (z_chk1 hc) (z_chk2 hc) (z_chk3 hc) gc kr kx
def bL_isDay_45 : zB := [(45, .bipush (-71), 47, -71)]
theorem bL_isDay_45_ok : z_ok cL_isDay 45 bL_isDay_45 47 = true := by decide +kernel
theorem iL_isDay_45 (hr : z_run 18 bL_isDay_45 ls st = some (ls', st')) (g : z_J Z mL_isDay R k n Q 47 ls' st' h) : z_J Z mL_isDay R k n Q 45 ls st h := z_jr bL_isDay_45 bL_isDay_45_ok hr g
theorem dL_isDay_47 : decode cL_isDay 47 = .ok (.if_icmp .ne 28, 3) := by decide +kernel
theorem iL_isDay_47 (kt : ¬ x = y → z_J Z mL_isDay R k n Q 75 ls st h) (kf : x = y → z_J Z mL_isDay R k n Q 50 ls st h) : z_J Z mL_isDay R k n Q 47 ls (.int y :: .int x :: st) h := z_ic_ne dL_isDay_47 (tgt := 75) (by decide) rfl kt kf
def bL_isDay_50 : zB := [(50, .aload_n 0, 51, nI 0), (51, .iload_n 1, 52, nI 0), (52, .iconst (-1), 53, -1)]
theorem bL_isDay_50_ok : z_ok cL_isDay 50 bL_isDay_50 53 = true := by decide +kernel
theorem iL_isDay_50 (hr : z_run 18 bL_isDay_50 ls st = some (ls', st')) (g : z_J Z mL_isDay R k n Q 53 ls' st' h) : z_J Z mL_isDay R k n Q 50 ls st h := z_jr bL_isDay_50 bL_isDay_50_ok hr g
theorem dL_isDay_53 : decode cL_isDay 53 = .ok (.invokestatic 126, 3) := by decide +kernel
theorem iL_isDay_53 (ha : z_args 3 st [] = some (As, rest)) (hc : z_chk rest As 5 = true) (hR : z_rm R R' 5 k n) (gc : z_J Z mL_need R' 0 0 Q' 0 As [] h) (kr : ∀ (v : Option Value) (h' : zH), Q' (.inl v) h' → z_J Z mL_isDay R (k + R'.cells) (n + R'.slots) Q 56 ls (v.toList ++ rest) h') (kx : ∀ (E : String) (h' : zH), Q' (.inr E) h' → z_JX Z mL_isDay R (k + R'.cells) (n + R'.slots) Q 53 ls E h') : z_J Z mL_isDay R k n Q 53 ls st h := z_callS (M' := mL_need) dL_isDay_53 rfl cs_L_126 gw614 ha hR (z_chk1 hc) (z_chk2 hc) (z_chk3 hc) gc kr kx
def bL_isDay_56 : zB := [(56, .bipush (-71), 58, -71)]
theorem bL_isDay_56_ok : z_ok cL_isDay 56 bL_isDay_56 58 = true := by decide +kernel
theorem iL_isDay_56 (hr : z_run 18 bL_isDay_56 ls st = some (ls', st')) (g : z_J Z mL_isDay R k n Q 58 ls' st' h) : z_J Z mL_isDay R k n Q 56 ls st h := z_jr bL_isDay_56 bL_isDay_56_ok hr g
theorem dL_isDay_58 : decode cL_isDay 58 = .ok (.if_icmp .ne 17, 3) := by decide +kernel
theorem iL_isDay_58 (kt : ¬ x = y → z_J Z mL_isDay R k n Q 75 ls st h) (kf : x = y → z_J Z mL_isDay R k n Q 61 ls st h) : z_J Z mL_isDay R k n Q 58 ls (.int y :: .int x :: st) h := z_ic_ne dL_isDay_58 (tgt := 75) (by decide) rfl kt kf
def bL_isDay_61 : zB := [(61, .aload_n 0, 62, nI 0), (62, .iload_n 1, 63, nI 0), (63, .aload 13, 65, nI 0), (65, .iconst 4, 66, nI 4)]
theorem bL_isDay_61_ok : z_ok cL_isDay 61 bL_isDay_61 66 = true := by decide +kernel
theorem iL_isDay_61 (hr : z_run 18 bL_isDay_61 ls st = some (ls', st')) (g : z_J Z mL_isDay R k n Q 66 ls' st' h) : z_J Z mL_isDay R k n Q 61 ls st h := z_jr bL_isDay_61 bL_isDay_61_ok hr g
theorem dL_isDay_66 : decode cL_isDay 66 = .ok (.iaload, 1) := by decide +kernel
theorem iL_isDay_66 {f : Nat → Int32} (hh : h r = some (a, .inl (0, N, .inl f))) (hi : i = nI j) (hj : j < N) (hN : N < 2 ^ 31) (g : z_J Z mL_isDay R k n Q 67 ls (.int (f j) :: st) h) : z_J Z mL_isDay R k n Q 66 ls (.int i :: .ref a :: st) h := z_iald dL_isDay_66 rfl hh hi hj hN g
theorem dL_isDay_67 : decode cL_isDay 67 = .ok (.invokestatic 128, 3) := by decide +kernel
theorem iL_isDay_67 (ha : z_args 3 st [] = some (As, rest)) (hc : z_chk rest As 5 = true) (hR : z_rm R R' 5 k n) (gc : z_J Z mL_gets R' 0 0 Q' 0 As [] h) (kr : ∀ (v : Option Value) (h' : zH), Q' (.inl v) h' → z_J Z mL_isDay R (k + R'.cells) (n + R'.slots) Q 70 ls (v.toList ++ rest) h') (kx : ∀ (E : String) (h' : zH), Q' (.inr E) h' → z_JX Z mL_isDay R (k + R'.cells) (n + R'.slots) Q 67 ls E h') : z_J Z mL_isDay R k n Q 67 ls st h := z_callS (M' := mL_gets) dL_isDay_67 rfl cs_L_128 gw626 ha hR (z_chk1 hc) (z_chk2 hc) (z_chk3 hc) gc kr kx
def bL_isDay_70 : zB := [(70, .bipush (-71), 72, -71)]
theorem bL_isDay_70_ok : z_ok cL_isDay 70 bL_isDay_70 72 = true := by decide +kernel
theorem iL_isDay_70 (hr : z_run 18 bL_isDay_70 ls st = some (ls', st')) (g : z_J Z mL_isDay R k n Q 72 ls' st' h) : z_J Z mL_isDay R k n Q 70 ls st h := z_jr bL_isDay_70 bL_isDay_70_ok hr g
theorem dL_isDay_72 : decode cL_isDay 72 = .ok (.if_icmp .eq 5, 3) := by decide +kernel
theorem iL_isDay_72 (kt : x = y → z_J Z mL_isDay R k n Q 77 ls st h) (kf : ¬ x = y → z_J Z mL_isDay R k n Q 75 ls st h) : z_J Z mL_isDay R k n Q 72 ls (.int y :: .int x :: st) h := z_ic_eq dL_isDay_72 (tgt := 77) (by decide) rfl kt kf
def bL_isDay_75 : zB := [(75, .iconst 0, 76, nI 0)]
theorem bL_isDay_75_ok : z_ok cL_isDay 75 bL_isDay_75 76 = true := by decide +kernel
theorem iL_isDay_75 (hr : z_run 18 bL_isDay_75 ls st = some (ls', st')) (g : z_J Z mL_isDay R k n Q 76 ls' st' h) : z_J Z mL_isDay R k n Q 75 ls st h := z_jr bL_isDay_75 bL_isDay_75_ok hr g
theorem dL_isDay_76 : decode cL_isDay 76 = .ok (.ireturn, 1) := by decide +kernel
theorem iL_isDay_76 (hz : narrow .boolean (.int x) = .int x) (hk : k ≤ R.cells) (hs : n ≤ R.slots) (hq : Q (.inl (some (.int x))) h) : z_J Z mL_isDay R k n Q 76 ls [.int x] h := z_iret (ty := .boolean) dL_isDay_76 rfl hz hk hs hq
def bL_isDay_77 : zB := [(77, .iconst 0, 78, nI 0), (78, .istore 14, 80, nI 0)]
theorem bL_isDay_77_ok : z_ok cL_isDay 77 bL_isDay_77 80 = true := by decide +kernel
theorem iL_isDay_77 (hr : z_run 18 bL_isDay_77 ls st = some (ls', st')) (g : z_J Z mL_isDay R k n Q 80 ls' st' h) : z_J Z mL_isDay R k n Q 77 ls st h := z_jr bL_isDay_77 bL_isDay_77_ok hr g
def bL_isDay_80 : zB := [(80, .iload 14, 82, nI 0), (82, .aload 13, 84, nI 0), (84, .iconst 4, 85, nI 4)]
theorem bL_isDay_80_ok : z_ok cL_isDay 80 bL_isDay_80 85 = true := by decide +kernel
theorem iL_isDay_80 (hr : z_run 18 bL_isDay_80 ls st = some (ls', st')) (g : z_J Z mL_isDay R k n Q 85 ls' st' h) : z_J Z mL_isDay R k n Q 80 ls st h := z_jr bL_isDay_80 bL_isDay_80_ok hr g
theorem dL_isDay_85 : decode cL_isDay 85 = .ok (.iaload, 1) := by decide +kernel
theorem iL_isDay_85 {f : Nat → Int32} (hh : h r = some (a, .inl (0, N, .inl f))) (hi : i = nI j) (hj : j < N) (hN : N < 2 ^ 31) (g : z_J Z mL_isDay R k n Q 86 ls (.int (f j) :: st) h) : z_J Z mL_isDay R k n Q 85 ls (.int i :: .ref a :: st) h := z_iald dL_isDay_85 rfl hh hi hj hN g
theorem dL_isDay_86 : decode cL_isDay 86 = .ok (.if_icmp .ge 41, 3) := by decide +kernel
theorem iL_isDay_86 (kt : y ≤ x → z_J Z mL_isDay R k n Q 127 ls st h) (kf : ¬ y ≤ x → z_J Z mL_isDay R k n Q 89 ls st h) : z_J Z mL_isDay R k n Q 86 ls (.int y :: .int x :: st) h := z_ic_ge dL_isDay_86 (tgt := 127) (by decide) rfl kt kf
def bL_isDay_89 : zB := [(89, .aload_n 0, 90, nI 0), (90, .iload_n 1, 91, nI 0), (91, .iload 14, 93, nI 0)]
theorem bL_isDay_89_ok : z_ok cL_isDay 89 bL_isDay_89 93 = true := by decide +kernel
theorem iL_isDay_89 (hr : z_run 18 bL_isDay_89 ls st = some (ls', st')) (g : z_J Z mL_isDay R k n Q 93 ls' st' h) : z_J Z mL_isDay R k n Q 89 ls st h := z_jr bL_isDay_89 bL_isDay_89_ok hr g
theorem dL_isDay_93 : decode cL_isDay 93 = .ok (.invokestatic 126, 3) := by decide +kernel
theorem iL_isDay_93 (ha : z_args 3 st [] = some (As, rest)) (hc : z_chk rest As 5 = true) (hR : z_rm R R' 5 k n) (gc : z_J Z mL_need R' 0 0 Q' 0 As [] h) (kr : ∀ (v : Option Value) (h' : zH), Q' (.inl v) h' → z_J Z mL_isDay R (k + R'.cells) (n + R'.slots) Q 96 ls (v.toList ++ rest) h') (kx : ∀ (E : String) (h' : zH), Q' (.inr E) h' → z_JX Z mL_isDay R (k + R'.cells) (n + R'.slots) Q 93 ls E h') : z_J Z mL_isDay R k n Q 93 ls st h := z_callS (M' := mL_need) dL_isDay_93 rfl cs_L_126 gw614 ha hR (z_chk1 hc) (z_chk2 hc) (z_chk3 hc) gc kr kx
def bL_isDay_96 : zB := [(96, .aload 10, 98, nI 0), (98, .iload 14, 100, nI 0)]
theorem bL_isDay_96_ok : z_ok cL_isDay 96 bL_isDay_96 100 = true := by decide +kernel
theorem iL_isDay_96 (hr : z_run 18 bL_isDay_96 ls st = some (ls', st')) (g : z_J Z mL_isDay R k n Q 100 ls' st' h) : z_J Z mL_isDay R k n Q 96 ls st h := z_jr bL_isDay_96 bL_isDay_96_ok hr g
theorem dL_isDay_100 : decode cL_isDay 100 = .ok (.iaload, 1) := by decide +kernel
theorem iL_isDay_100 {f : Nat → Int32} (hh : h r = some (a, .inl (0, N, .inl f))) (hi : i = nI j) (hj : j < N) (hN : N < 2 ^ 31) (g : z_J Z mL_isDay R k n Q 101 ls (.int (f j) :: st) h) : z_J Z mL_isDay R k n Q 100 ls (.int i :: .ref a :: st) h := z_iald dL_isDay_100 rfl hh hi hj hN g
theorem dL_isDay_101 : decode cL_isDay 101 = .ok (.if_icmp .ne 18, 3) := by decide +kernel
theorem iL_isDay_101 (kt : ¬ x = y → z_J Z mL_isDay R k n Q 119 ls st h) (kf : x = y → z_J Z mL_isDay R k n Q 104 ls st h) : z_J Z mL_isDay R k n Q 101 ls (.int y :: .int x :: st) h := z_ic_ne dL_isDay_101 (tgt := 119) (by decide) rfl kt kf
def bL_isDay_104 : zB := [(104, .aload_n 0, 105, nI 0), (105, .iload_n 1, 106, nI 0), (106, .iload 14, 108, nI 0)]
theorem bL_isDay_104_ok : z_ok cL_isDay 104 bL_isDay_104 108 = true := by decide +kernel
theorem iL_isDay_104 (hr : z_run 18 bL_isDay_104 ls st = some (ls', st')) (g : z_J Z mL_isDay R k n Q 108 ls' st' h) : z_J Z mL_isDay R k n Q 104 ls st h := z_jr bL_isDay_104 bL_isDay_104_ok hr g
theorem dL_isDay_108 : decode cL_isDay 108 = .ok (.invokevirtual 130, 3) := by decide +kernel
theorem iL_isDay_108 (ha : z_args 2 st [] = some (As, .ref b :: rest)) (hc : z_chk rest (.ref b :: As) 3 = true) (hh : h r = some (b, .inr (6, fs))) (hR : z_rm R R' 3 k n) (gc : z_J Z mX5_demand R' 0 0 Q' 0 (.ref b :: As) [] h) (kr : ∀ (v : Option Value) (h' : zH), Q' (.inl v) h' → z_J Z mL_isDay R (k + R'.cells) (n + R'.slots) Q 111 ls (v.toList ++ rest) h') (kx : ∀ (E : String) (h' : zH), Q' (.inr E) h' → z_JX Z mL_isDay R (k + R'.cells) (n + R'.slots) Q 108 ls E h') : z_J Z mL_isDay R k n Q 108 ls st h := z_callV (M' := mX5_demand) dL_isDay_108 rfl cs_L_130 rfl gw682 gw683 ha hh (ci := 6) rfl hR (z_chk1 hc) (z_chk2 hc) (z_chk3 hc) gc kr kx
def bL_isDay_111 : zB := [(111, .aload 11, 113, nI 0), (113, .iload 14, 115, nI 0)]
theorem bL_isDay_111_ok : z_ok cL_isDay 111 bL_isDay_111 115 = true := by decide +kernel
theorem iL_isDay_111 (hr : z_run 18 bL_isDay_111 ls st = some (ls', st')) (g : z_J Z mL_isDay R k n Q 115 ls' st' h) : z_J Z mL_isDay R k n Q 111 ls st h := z_jr bL_isDay_111 bL_isDay_111_ok hr g
theorem dL_isDay_115 : decode cL_isDay 115 = .ok (.iaload, 1) := by decide +kernel
theorem iL_isDay_115 {f : Nat → Int32} (hh : h r = some (a, .inl (0, N, .inl f))) (hi : i = nI j) (hj : j < N) (hN : N < 2 ^ 31) (g : z_J Z mL_isDay R k n Q 116 ls (.int (f j) :: st) h) : z_J Z mL_isDay R k n Q 115 ls (.int i :: .ref a :: st) h := z_iald dL_isDay_115 rfl hh hi hj hN g
theorem dL_isDay_116 : decode cL_isDay 116 = .ok (.if_icmp .eq 5, 3) := by decide +kernel
theorem iL_isDay_116 (kt : x = y → z_J Z mL_isDay R k n Q 121 ls st h) (kf : ¬ x = y → z_J Z mL_isDay R k n Q 119 ls st h) : z_J Z mL_isDay R k n Q 116 ls (.int y :: .int x :: st) h := z_ic_eq dL_isDay_116 (tgt := 121) (by decide) rfl kt kf
def bL_isDay_119 : zB := [(119, .iconst 0, 120, nI 0)]
theorem bL_isDay_119_ok : z_ok cL_isDay 119 bL_isDay_119 120 = true := by decide +kernel
theorem iL_isDay_119 (hr : z_run 18 bL_isDay_119 ls st = some (ls', st')) (g : z_J Z mL_isDay R k n Q 120 ls' st' h) : z_J Z mL_isDay R k n Q 119 ls st h := z_jr bL_isDay_119 bL_isDay_119_ok hr g
theorem dL_isDay_120 : decode cL_isDay 120 = .ok (.ireturn, 1) := by decide +kernel
theorem iL_isDay_120 (hz : narrow .boolean (.int x) = .int x) (hk : k ≤ R.cells) (hs : n ≤ R.slots) (hq : Q (.inl (some (.int x))) h) : z_J Z mL_isDay R k n Q 120 ls [.int x] h := z_iret (ty := .boolean) dL_isDay_120 rfl hz hk hs hq
def bL_isDay_121 : zB := [(121, .iinc 14 1, 124, nI 1), (124, .goto (-44), 80, nI 0)]
theorem bL_isDay_121_ok : z_ok cL_isDay 121 bL_isDay_121 80 = true := by decide +kernel
theorem iL_isDay_121 (hr : z_run 18 bL_isDay_121 ls st = some (ls', st')) (g : z_J Z mL_isDay R k n Q 80 ls' st' h) : z_J Z mL_isDay R k n Q 121 ls st h := z_jr bL_isDay_121 bL_isDay_121_ok hr g
def bL_isDay_127 : zB := [(127, .iconst 0, 128, nI 0), (128, .istore 14, 130, nI 0)]
theorem bL_isDay_127_ok : z_ok cL_isDay 127 bL_isDay_127 130 = true := by decide +kernel
theorem iL_isDay_127 (hr : z_run 18 bL_isDay_127 ls st = some (ls', st')) (g : z_J Z mL_isDay R k n Q 130 ls' st' h) : z_J Z mL_isDay R k n Q 127 ls st h := z_jr bL_isDay_127 bL_isDay_127_ok hr g
def bL_isDay_130 : zB := [(130, .iload 14, 132, nI 0), (132, .aload 13, 134, nI 0), (134, .iconst 1, 135, nI 1)]
theorem bL_isDay_130_ok : z_ok cL_isDay 130 bL_isDay_130 135 = true := by decide +kernel
theorem iL_isDay_130 (hr : z_run 18 bL_isDay_130 ls st = some (ls', st')) (g : z_J Z mL_isDay R k n Q 135 ls' st' h) : z_J Z mL_isDay R k n Q 130 ls st h := z_jr bL_isDay_130 bL_isDay_130_ok hr g
theorem dL_isDay_135 : decode cL_isDay 135 = .ok (.iaload, 1) := by decide +kernel
theorem iL_isDay_135 {f : Nat → Int32} (hh : h r = some (a, .inl (0, N, .inl f))) (hi : i = nI j) (hj : j < N) (hN : N < 2 ^ 31) (g : z_J Z mL_isDay R k n Q 136 ls (.int (f j) :: st) h) : z_J Z mL_isDay R k n Q 135 ls (.int i :: .ref a :: st) h := z_iald dL_isDay_135 rfl hh hi hj hN g
theorem dL_isDay_136 : decode cL_isDay 136 = .ok (.if_icmp .ge 50, 3) := by decide +kernel
theorem iL_isDay_136 (kt : y ≤ x → z_J Z mL_isDay R k n Q 186 ls st h) (kf : ¬ y ≤ x → z_J Z mL_isDay R k n Q 139 ls st h) : z_J Z mL_isDay R k n Q 136 ls (.int y :: .int x :: st) h := z_ic_ge dL_isDay_136 (tgt := 186) (by decide) rfl kt kf
def bL_isDay_139 : zB := [(139, .iconst 0, 140, nI 0), (140, .istore 15, 142, nI 0)]
theorem bL_isDay_139_ok : z_ok cL_isDay 139 bL_isDay_139 142 = true := by decide +kernel
theorem iL_isDay_139 (hr : z_run 18 bL_isDay_139 ls st = some (ls', st')) (g : z_J Z mL_isDay R k n Q 142 ls' st' h) : z_J Z mL_isDay R k n Q 139 ls st h := z_jr bL_isDay_139 bL_isDay_139_ok hr g
def bL_isDay_142 : zB := [(142, .iload 15, 144, nI 0), (144, .iconst 5, 145, nI 5)]
theorem bL_isDay_142_ok : z_ok cL_isDay 142 bL_isDay_142 145 = true := by decide +kernel
theorem iL_isDay_142 (hr : z_run 18 bL_isDay_142 ls st = some (ls', st')) (g : z_J Z mL_isDay R k n Q 145 ls' st' h) : z_J Z mL_isDay R k n Q 142 ls st h := z_jr bL_isDay_142 bL_isDay_142_ok hr g
theorem dL_isDay_145 : decode cL_isDay 145 = .ok (.if_icmp .ge 35, 3) := by decide +kernel
theorem iL_isDay_145 (kt : y ≤ x → z_J Z mL_isDay R k n Q 180 ls st h) (kf : ¬ y ≤ x → z_J Z mL_isDay R k n Q 148 ls st h) : z_J Z mL_isDay R k n Q 145 ls (.int y :: .int x :: st) h := z_ic_ge dL_isDay_145 (tgt := 180) (by decide) rfl kt kf
def bL_isDay_148 : zB := [(148, .aload_n 0, 149, nI 0), (149, .iload 14, 151, nI 0), (151, .iload 15, 153, nI 0), (153, .iload_n 1, 154, nI 0)]
theorem bL_isDay_148_ok : z_ok cL_isDay 148 bL_isDay_148 154 = true := by decide +kernel
theorem iL_isDay_148 (hr : z_run 18 bL_isDay_148 ls st = some (ls', st')) (g : z_J Z mL_isDay R k n Q 154 ls' st' h) : z_J Z mL_isDay R k n Q 148 ls st h := z_jr bL_isDay_148 bL_isDay_148_ok hr g
theorem dL_isDay_154 : decode cL_isDay 154 = .ok (.invokestatic 115, 3) := by decide +kernel
theorem iL_isDay_154 (ha : z_args 4 st [] = some (As, rest)) (hc : z_chk rest As 6 = true) (hR : z_rm R R' 6 k n) (gc : z_J Z mL_runs R' 0 0 Q' 0 As [] h) (kr : ∀ (v : Option Value) (h' : zH), Q' (.inl v) h' → z_J Z mL_isDay R (k + R'.cells) (n + R'.slots) Q 157 ls (v.toList ++ rest) h') (kx : ∀ (E : String) (h' : zH), Q' (.inr E) h' → z_JX Z mL_isDay R (k + R'.cells) (n + R'.slots) Q 154 ls E h') : z_J Z mL_isDay R k n Q 154 ls st h := z_callS (M' := mL_runs) dL_isDay_154 rfl cs_L_115 gw538 ha hR (z_chk1 hc) (z_chk2 hc) (z_chk3 hc) gc kr kx
def bL_isDay_157 : zB := [(157, .aload 9, 159, nI 0), (159, .aload 13, 161, nI 0), (161, .iload 14, 163, nI 0), (163, .iload 15, 165, nI 0), (165, .iload_n 1, 166, nI 0)]
theorem bL_isDay_157_ok : z_ok cL_isDay 157 bL_isDay_157 166 = true := by decide +kernel
theorem iL_isDay_157 (hr : z_run 18 bL_isDay_157 ls st = some (ls', st')) (g : z_J Z mL_isDay R k n Q 166 ls' st' h) : z_J Z mL_isDay R k n Q 157 ls st h := z_jr bL_isDay_157 bL_isDay_157_ok hr g
theorem dL_isDay_166 : decode cL_isDay 166 = .ok (.invokestatic 80, 3) := by decide +kernel
theorem iL_isDay_166 (ha : z_args 5 st [] = some (As, rest)) (hc : z_chk rest As 6 = true) (hR : z_rm R R' 6 k n) (gc : z_J Z mL_version R' 0 0 Q' 0 As [] h) (kr : ∀ (v : Option Value) (h' : zH), Q' (.inl v) h' → z_J Z mL_isDay R (k + R'.cells) (n + R'.slots) Q 169 ls (v.toList ++ rest) h') (kx : ∀ (E : String) (h' : zH), Q' (.inr E) h' → z_JX Z mL_isDay R (k + R'.cells) (n + R'.slots) Q 166 ls E h') : z_J Z mL_isDay R k n Q 166 ls st h := z_callS (M' := mL_version) dL_isDay_166 rfl cs_L_80 gw568 ha hR (z_chk1 hc) (z_chk2 hc) (z_chk3 hc) gc kr kx
theorem dL_isDay_169 : decode cL_isDay 169 = .ok (.if_icmp .eq 5, 3) := by decide +kernel
theorem iL_isDay_169 (kt : x = y → z_J Z mL_isDay R k n Q 174 ls st h) (kf : ¬ x = y → z_J Z mL_isDay R k n Q 172 ls st h) : z_J Z mL_isDay R k n Q 169 ls (.int y :: .int x :: st) h := z_ic_eq dL_isDay_169 (tgt := 174) (by decide) rfl kt kf
def bL_isDay_172 : zB := [(172, .iconst 0, 173, nI 0)]
theorem bL_isDay_172_ok : z_ok cL_isDay 172 bL_isDay_172 173 = true := by decide +kernel
theorem iL_isDay_172 (hr : z_run 18 bL_isDay_172 ls st = some (ls', st')) (g : z_J Z mL_isDay R k n Q 173 ls' st' h) : z_J Z mL_isDay R k n Q 172 ls st h := z_jr bL_isDay_172 bL_isDay_172_ok hr g
theorem dL_isDay_173 : decode cL_isDay 173 = .ok (.ireturn, 1) := by decide +kernel
theorem iL_isDay_173 (hz : narrow .boolean (.int x) = .int x) (hk : k ≤ R.cells) (hs : n ≤ R.slots) (hq : Q (.inl (some (.int x))) h) : z_J Z mL_isDay R k n Q 173 ls [.int x] h := z_iret (ty := .boolean) dL_isDay_173 rfl hz hk hs hq
def bL_isDay_174 : zB := [(174, .iinc 15 1, 177, nI 1), (177, .goto (-35), 142, nI 0)]
theorem bL_isDay_174_ok : z_ok cL_isDay 174 bL_isDay_174 142 = true := by decide +kernel
theorem iL_isDay_174 (hr : z_run 18 bL_isDay_174 ls st = some (ls', st')) (g : z_J Z mL_isDay R k n Q 142 ls' st' h) : z_J Z mL_isDay R k n Q 174 ls st h := z_jr bL_isDay_174 bL_isDay_174_ok hr g
def bL_isDay_180 : zB := [(180, .iinc 14 1, 183, nI 1), (183, .goto (-53), 130, nI 0)]
theorem bL_isDay_180_ok : z_ok cL_isDay 180 bL_isDay_180 130 = true := by decide +kernel
theorem iL_isDay_180 (hr : z_run 18 bL_isDay_180 ls st = some (ls', st')) (g : z_J Z mL_isDay R k n Q 130 ls' st' h) : z_J Z mL_isDay R k n Q 180 ls st h := z_jr bL_isDay_180 bL_isDay_180_ok hr g
def bL_isDay_186 : zB := [(186, .aload 13, 188, nI 0), (188, .iconst 4, 189, nI 4)]
theorem bL_isDay_186_ok : z_ok cL_isDay 186 bL_isDay_186 189 = true := by decide +kernel
theorem iL_isDay_186 (hr : z_run 18 bL_isDay_186 ls st = some (ls', st')) (g : z_J Z mL_isDay R k n Q 189 ls' st' h) : z_J Z mL_isDay R k n Q 186 ls st h := z_jr bL_isDay_186 bL_isDay_186_ok hr g
theorem dL_isDay_189 : decode cL_isDay 189 = .ok (.iaload, 1) := by decide +kernel
theorem iL_isDay_189 {f : Nat → Int32} (hh : h r = some (a, .inl (0, N, .inl f))) (hi : i = nI j) (hj : j < N) (hN : N < 2 ^ 31) (g : z_J Z mL_isDay R k n Q 190 ls (.int (f j) :: st) h) : z_J Z mL_isDay R k n Q 189 ls (.int i :: .ref a :: st) h := z_iald dL_isDay_189 rfl hh hi hj hN g
def bL_isDay_190 : zB := [(190, .bipush 10, 192, nI 10)]
theorem bL_isDay_190_ok : z_ok cL_isDay 190 bL_isDay_190 192 = true := by decide +kernel
theorem iL_isDay_190 (hr : z_run 18 bL_isDay_190 ls st = some (ls', st')) (g : z_J Z mL_isDay R k n Q 192 ls' st' h) : z_J Z mL_isDay R k n Q 190 ls st h := z_jr bL_isDay_190 bL_isDay_190_ok hr g
theorem dL_isDay_192 : decode cL_isDay 192 = .ok (.if_icmp .le 27, 3) := by decide +kernel
theorem iL_isDay_192 (kt : x ≤ y → z_J Z mL_isDay R k n Q 219 ls st h) (kf : ¬ x ≤ y → z_J Z mL_isDay R k n Q 195 ls st h) : z_J Z mL_isDay R k n Q 192 ls (.int y :: .int x :: st) h := z_ic_le dL_isDay_192 (tgt := 219) (by decide) rfl kt kf
def bL_isDay_195 : zB := [(195, .aload_n 0, 196, nI 0), (196, .iload_n 1, 197, nI 0)]
theorem bL_isDay_195_ok : z_ok cL_isDay 195 bL_isDay_195 197 = true := by decide +kernel
theorem iL_isDay_195 (hr : z_run 18 bL_isDay_195 ls st = some (ls', st')) (g : z_J Z mL_isDay R k n Q 197 ls' st' h) : z_J Z mL_isDay R k n Q 195 ls st h := z_jr bL_isDay_195 bL_isDay_195_ok hr g
theorem dL_isDay_197 : decode cL_isDay 197 = .ok (.invokestatic 133, 3) := by decide +kernel
theorem iL_isDay_197 (ha : z_args 2 st [] = some (As, rest)) (hc : z_chk rest As 4 = true) (hR : z_rm R R' 4 k n) (gc : z_J Z mL_lackBySets R' 0 0 Q' 0 As [] h) (kr : ∀ (v : Option Value) (h' : zH), Q' (.inl v) h' → z_J Z mL_isDay R (k + R'.cells) (n + R'.slots) Q 200 ls (v.toList ++ rest) h') (kx : ∀ (E : String) (h' : zH), Q' (.inr E) h' → z_JX Z mL_isDay R (k + R'.cells) (n + R'.slots) Q 197 ls E h') : z_J Z mL_isDay R k n Q 197 ls st h := z_callS (M' := mL_lackBySets) dL_isDay_197 rfl cs_L_133 gw686 ha hR (z_chk1 hc) (z_chk2 hc) (z_chk3 hc) gc kr kx
def bL_isDay_200 : zB := [(200, .bipush (-73), 202, -73)]
theorem bL_isDay_200_ok : z_ok cL_isDay 200 bL_isDay_200 202 = true := by decide +kernel
theorem iL_isDay_200 (hr : z_run 18 bL_isDay_200 ls st = some (ls', st')) (g : z_J Z mL_isDay R k n Q 202 ls' st' h) : z_J Z mL_isDay R k n Q 200 ls st h := z_jr bL_isDay_200 bL_isDay_200_ok hr g
theorem dL_isDay_202 : decode cL_isDay 202 = .ok (.if_icmp .ne 15, 3) := by decide +kernel
theorem iL_isDay_202 (kt : ¬ x = y → z_J Z mL_isDay R k n Q 217 ls st h) (kf : x = y → z_J Z mL_isDay R k n Q 205 ls st h) : z_J Z mL_isDay R k n Q 202 ls (.int y :: .int x :: st) h := z_ic_ne dL_isDay_202 (tgt := 217) (by decide) rfl kt kf
def bL_isDay_205 : zB := [(205, .aload_n 0, 206, nI 0), (206, .iload_n 1, 207, nI 0)]
theorem bL_isDay_205_ok : z_ok cL_isDay 205 bL_isDay_205 207 = true := by decide +kernel
theorem iL_isDay_205 (hr : z_run 18 bL_isDay_205 ls st = some (ls', st')) (g : z_J Z mL_isDay R k n Q 207 ls' st' h) : z_J Z mL_isDay R k n Q 205 ls st h := z_jr bL_isDay_205 bL_isDay_205_ok hr g
theorem dL_isDay_207 : decode cL_isDay 207 = .ok (.invokestatic 136, 3) := by decide +kernel
theorem iL_isDay_207 (ha : z_args 2 st [] = some (As, rest)) (hc : z_chk rest As 4 = true) (hR : z_rm R R' 4 k n) (gc : z_J Z mL_lack R' 0 0 Q' 0 As [] h) (kr : ∀ (v : Option Value) (h' : zH), Q' (.inl v) h' → z_J Z mL_isDay R (k + R'.cells) (n + R'.slots) Q 210 ls (v.toList ++ rest) h') (kx : ∀ (E : String) (h' : zH), Q' (.inr E) h' → z_JX Z mL_isDay R (k + R'.cells) (n + R'.slots) Q 207 ls E h') : z_J Z mL_isDay R k n Q 207 ls st h := z_callS (M' := mL_lack) dL_isDay_207 rfl cs_L_136 gw706 ha hR (z_chk1 hc) (z_chk2 hc) (z_chk3 hc) gc kr kx
theorem dL_isDay_210 : decode cL_isDay 210 = .ok (.ifCond .lt 7, 3) := by decide +kernel
theorem iL_isDay_210 (kt : x < 0 → z_J Z mL_isDay R k n Q 217 ls st h) (kf : ¬ x < 0 → z_J Z mL_isDay R k n Q 213 ls st h) : z_J Z mL_isDay R k n Q 210 ls (.int x :: st) h := z_if_lt dL_isDay_210 (tgt := 217) (by decide) rfl kt kf
def bL_isDay_213 : zB := [(213, .iconst 1, 214, nI 1), (214, .goto 4, 218, nI 0)]
theorem bL_isDay_213_ok : z_ok cL_isDay 213 bL_isDay_213 218 = true := by decide +kernel
theorem iL_isDay_213 (hr : z_run 18 bL_isDay_213 ls st = some (ls', st')) (g : z_J Z mL_isDay R k n Q 218 ls' st' h) : z_J Z mL_isDay R k n Q 213 ls st h := z_jr bL_isDay_213 bL_isDay_213_ok hr g
def bL_isDay_217 : zB := [(217, .iconst 0, 218, nI 0)]
theorem bL_isDay_217_ok : z_ok cL_isDay 217 bL_isDay_217 218 = true := by decide +kernel
theorem iL_isDay_217 (hr : z_run 18 bL_isDay_217 ls st = some (ls', st')) (g : z_J Z mL_isDay R k n Q 218 ls' st' h) : z_J Z mL_isDay R k n Q 217 ls st h := z_jr bL_isDay_217 bL_isDay_217_ok hr g
theorem dL_isDay_218 : decode cL_isDay 218 = .ok (.ireturn, 1) := by decide +kernel
theorem iL_isDay_218 (hz : narrow .boolean (.int x) = .int x) (hk : k ≤ R.cells) (hs : n ≤ R.slots) (hq : Q (.inl (some (.int x))) h) : z_J Z mL_isDay R k n Q 218 ls [.int x] h := z_iret (ty := .boolean) dL_isDay_218 rfl hz hk hs hq
def bL_isDay_219 : zB := [(219, .iconst 0, 220, nI 0), (220, .istore 14, 222, nI 0), (222, .iconst 0, 223, nI 0), (223, .istore 15, 225, nI 0)]
theorem bL_isDay_219_ok : z_ok cL_isDay 219 bL_isDay_219 225 = true := by decide +kernel
theorem iL_isDay_219 (hr : z_run 18 bL_isDay_219 ls st = some (ls', st')) (g : z_J Z mL_isDay R k n Q 225 ls' st' h) : z_J Z mL_isDay R k n Q 219 ls st h := z_jr bL_isDay_219 bL_isDay_219_ok hr g
def bL_isDay_225 : zB := [(225, .iload 15, 227, nI 0), (227, .aload 13, 229, nI 0), (229, .iconst 4, 230, nI 4)]
theorem bL_isDay_225_ok : z_ok cL_isDay 225 bL_isDay_225 230 = true := by decide +kernel
theorem iL_isDay_225 (hr : z_run 18 bL_isDay_225 ls st = some (ls', st')) (g : z_J Z mL_isDay R k n Q 230 ls' st' h) : z_J Z mL_isDay R k n Q 225 ls st h := z_jr bL_isDay_225 bL_isDay_225_ok hr g
theorem dL_isDay_230 : decode cL_isDay 230 = .ok (.iaload, 1) := by decide +kernel
theorem iL_isDay_230 {f : Nat → Int32} (hh : h r = some (a, .inl (0, N, .inl f))) (hi : i = nI j) (hj : j < N) (hN : N < 2 ^ 31) (g : z_J Z mL_isDay R k n Q 231 ls (.int (f j) :: st) h) : z_J Z mL_isDay R k n Q 230 ls (.int i :: .ref a :: st) h := z_iald dL_isDay_230 rfl hh hi hj hN g
theorem dL_isDay_231 : decode cL_isDay 231 = .ok (.if_icmp .ge 72, 3) := by decide +kernel
theorem iL_isDay_231 (kt : y ≤ x → z_J Z mL_isDay R k n Q 303 ls st h) (kf : ¬ y ≤ x → z_J Z mL_isDay R k n Q 234 ls st h) : z_J Z mL_isDay R k n Q 231 ls (.int y :: .int x :: st) h := z_ic_ge dL_isDay_231 (tgt := 303) (by decide) rfl kt kf
def bL_isDay_234 : zB := [(234, .iload 15, 236, nI 0), (236, .iconst 1, 237, nI 1), (237, .iadd, 238, nI 0), (238, .iconst 0, 239, nI 0), (239, .iconst 0, 240, nI 0), (240, .aload 4, 242, nI 0), (242, .aload 11, 244, nI 0), (244, .aload 12, 246, nI 0), (246, .aload 13, 248, nI 0)]
theorem bL_isDay_234_ok : z_ok cL_isDay 234 bL_isDay_234 248 = true := by decide +kernel
theorem iL_isDay_234 (hr : z_run 18 bL_isDay_234 ls st = some (ls', st')) (g : z_J Z mL_isDay R k n Q 248 ls' st' h) : z_J Z mL_isDay R k n Q 234 ls st h := z_jr bL_isDay_234 bL_isDay_234_ok hr g
theorem dL_isDay_248 : decode cL_isDay 248 = .ok (.invokestatic 138, 3) := by decide +kernel
theorem iL_isDay_248 (ha : z_args 7 st [] = some (As, rest)) (hc : z_chk rest As 12 = true) (hR : z_rm R R' 12 k n) (gc : z_J Z mL_lacks R' 0 0 Q' 0 As [] h) (kr : ∀ (v : Option Value) (h' : zH), Q' (.inl v) h' → z_J Z mL_isDay R (k + R'.cells) (n + R'.slots) Q 251 ls (v.toList ++ rest) h') (kx : ∀ (E : String) (h' : zH), Q' (.inr E) h' → z_JX Z mL_isDay R (k + R'.cells) (n + R'.slots) Q 248 ls E h') : z_J Z mL_isDay R k n Q 248 ls st h := z_callS (M' := mL_lacks) dL_isDay_248 rfl cs_L_138 gw717 ha hR (z_chk1 hc) (z_chk2 hc) (z_chk3 hc) gc kr kx
def bL_isDay_251 : zB := [(251, .istore 16, 253, nI 0), (253, .iload_n 2, 254, nI 0)]
theorem bL_isDay_251_ok : z_ok cL_isDay 251 bL_isDay_251 254 = true := by decide +kernel
theorem iL_isDay_251 (hr : z_run 18 bL_isDay_251 ls st = some (ls', st')) (g : z_J Z mL_isDay R k n Q 254 ls' st' h) : z_J Z mL_isDay R k n Q 251 ls st h := z_jr bL_isDay_251 bL_isDay_251_ok hr g
theorem dL_isDay_254 : decode cL_isDay 254 = .ok (.ifCond .ne 16, 3) := by decide +kernel
theorem iL_isDay_254 (kt : ¬ x = 0 → z_J Z mL_isDay R k n Q 270 ls st h) (kf : x = 0 → z_J Z mL_isDay R k n Q 257 ls st h) : z_J Z mL_isDay R k n Q 254 ls (.int x :: st) h := z_if_ne dL_isDay_254 (tgt := 270) (by decide) rfl kt kf
def bL_isDay_257 : zB := [(257, .iload 15, 259, nI 0), (259, .iload_n 3, 260, nI 0), (260, .aload 13, 262, nI 0), (262, .iconst 4, 263, nI 4)]
theorem bL_isDay_257_ok : z_ok cL_isDay 257 bL_isDay_257 263 = true := by decide +kernel
theorem iL_isDay_257 (hr : z_run 18 bL_isDay_257 ls st = some (ls', st')) (g : z_J Z mL_isDay R k n Q 263 ls' st' h) : z_J Z mL_isDay R k n Q 257 ls st h := z_jr bL_isDay_257 bL_isDay_257_ok hr g
theorem dL_isDay_263 : decode cL_isDay 263 = .ok (.iaload, 1) := by decide +kernel
theorem iL_isDay_263 {f : Nat → Int32} (hh : h r = some (a, .inl (0, N, .inl f))) (hi : i = nI j) (hj : j < N) (hN : N < 2 ^ 31) (g : z_J Z mL_isDay R k n Q 264 ls (.int (f j) :: st) h) : z_J Z mL_isDay R k n Q 263 ls (.int i :: .ref a :: st) h := z_iald dL_isDay_263 rfl hh hi hj hN g
theorem dL_isDay_264 : decode cL_isDay 264 = .ok (.invokestatic 87, 3) := by decide +kernel
theorem iL_isDay_264 (ha : z_args 2 st [] = some (As, rest)) (hc : z_chk rest As 2 = true) (hR : z_rm R R' 2 k n) (gc : z_J Z mL_low R' 0 0 Q' 0 As [] h) (kr : ∀ (v : Option Value) (h' : zH), Q' (.inl v) h' → z_J Z mL_isDay R (k + R'.cells) (n + R'.slots) Q 267 ls (v.toList ++ rest) h') (kx : ∀ (E : String) (h' : zH), Q' (.inr E) h' → z_JX Z mL_isDay R (k + R'.cells) (n + R'.slots) Q 264 ls E h') : z_J Z mL_isDay R k n Q 264 ls st h := z_callS (M' := mL_low) dL_isDay_264 rfl cs_L_87 gw168 ha hR (z_chk1 hc) (z_chk2 hc) (z_chk3 hc) gc kr kx
theorem dL_isDay_267 : decode cL_isDay 267 = .ok (.if_icmp .ne 26, 3) := by decide +kernel
theorem iL_isDay_267 (kt : ¬ x = y → z_J Z mL_isDay R k n Q 293 ls st h) (kf : x = y → z_J Z mL_isDay R k n Q 270 ls st h) : z_J Z mL_isDay R k n Q 267 ls (.int y :: .int x :: st) h := z_ic_ne dL_isDay_267 (tgt := 293) (by decide) rfl kt kf
def bL_isDay_270 : zB := [(270, .aload_n 0, 271, nI 0), (271, .iload_n 1, 272, nI 0), (272, .iload 15, 274, nI 0)]
theorem bL_isDay_270_ok : z_ok cL_isDay 270 bL_isDay_270 274 = true := by decide +kernel
theorem iL_isDay_270 (hr : z_run 18 bL_isDay_270 ls st = some (ls', st')) (g : z_J Z mL_isDay R k n Q 274 ls' st' h) : z_J Z mL_isDay R k n Q 270 ls st h := z_jr bL_isDay_270 bL_isDay_270_ok hr g
theorem dL_isDay_274 : decode cL_isDay 274 = .ok (.invokestatic 128, 3) := by decide +kernel
theorem iL_isDay_274 (ha : z_args 3 st [] = some (As, rest)) (hc : z_chk rest As 5 = true) (hR : z_rm R R' 5 k n) (gc : z_J Z mL_gets R' 0 0 Q' 0 As [] h) (kr : ∀ (v : Option Value) (h' : zH), Q' (.inl v) h' → z_J Z mL_isDay R (k + R'.cells) (n + R'.slots) Q 277 ls (v.toList ++ rest) h') (kx : ∀ (E : String) (h' : zH), Q' (.inr E) h' → z_JX Z mL_isDay R (k + R'.cells) (n + R'.slots) Q 274 ls E h') : z_J Z mL_isDay R k n Q 274 ls st h := z_callS (M' := mL_gets) dL_isDay_274 rfl cs_L_128 gw626 ha hR (z_chk1 hc) (z_chk2 hc) (z_chk3 hc) gc kr kx
def bL_isDay_277 : zB := [(277, .aload 11, 279, nI 0), (279, .iload 15, 281, nI 0)]
theorem bL_isDay_277_ok : z_ok cL_isDay 277 bL_isDay_277 281 = true := by decide +kernel
theorem iL_isDay_277 (hr : z_run 18 bL_isDay_277 ls st = some (ls', st')) (g : z_J Z mL_isDay R k n Q 281 ls' st' h) : z_J Z mL_isDay R k n Q 277 ls st h := z_jr bL_isDay_277 bL_isDay_277_ok hr g
theorem dL_isDay_281 : decode cL_isDay 281 = .ok (.iaload, 1) := by decide +kernel
theorem iL_isDay_281 {f : Nat → Int32} (hh : h r = some (a, .inl (0, N, .inl f))) (hi : i = nI j) (hj : j < N) (hN : N < 2 ^ 31) (g : z_J Z mL_isDay R k n Q 282 ls (.int (f j) :: st) h) : z_J Z mL_isDay R k n Q 281 ls (.int i :: .ref a :: st) h := z_iald dL_isDay_281 rfl hh hi hj hN g
def bL_isDay_282 : zB := [(282, .iload 16, 284, nI 0), (284, .isub, 285, nI 0), (285, .iload 14, 287, nI 0), (287, .iadd, 288, nI 0)]
theorem bL_isDay_282_ok : z_ok cL_isDay 282 bL_isDay_282 288 = true := by decide +kernel
theorem iL_isDay_282 (hr : z_run 18 bL_isDay_282 ls st = some (ls', st')) (g : z_J Z mL_isDay R k n Q 288 ls' st' h) : z_J Z mL_isDay R k n Q 282 ls st h := z_jr bL_isDay_282 bL_isDay_282_ok hr g
theorem dL_isDay_288 : decode cL_isDay 288 = .ok (.if_icmp .eq 5, 3) := by decide +kernel
theorem iL_isDay_288 (kt : x = y → z_J Z mL_isDay R k n Q 293 ls st h) (kf : ¬ x = y → z_J Z mL_isDay R k n Q 291 ls st h) : z_J Z mL_isDay R k n Q 288 ls (.int y :: .int x :: st) h := z_ic_eq dL_isDay_288 (tgt := 293) (by decide) rfl kt kf
def bL_isDay_291 : zB := [(291, .iconst 0, 292, nI 0)]
theorem bL_isDay_291_ok : z_ok cL_isDay 291 bL_isDay_291 292 = true := by decide +kernel
theorem iL_isDay_291 (hr : z_run 18 bL_isDay_291 ls st = some (ls', st')) (g : z_J Z mL_isDay R k n Q 292 ls' st' h) : z_J Z mL_isDay R k n Q 291 ls st h := z_jr bL_isDay_291 bL_isDay_291_ok hr g
theorem dL_isDay_292 : decode cL_isDay 292 = .ok (.ireturn, 1) := by decide +kernel
theorem iL_isDay_292 (hz : narrow .boolean (.int x) = .int x) (hk : k ≤ R.cells) (hs : n ≤ R.slots) (hq : Q (.inl (some (.int x))) h) : z_J Z mL_isDay R k n Q 292 ls [.int x] h := z_iret (ty := .boolean) dL_isDay_292 rfl hz hk hs hq
def bL_isDay_293 : zB := [(293, .iload 16, 295, nI 0), (295, .istore 14, 297, nI 0), (297, .iinc 15 1, 300, nI 1), (300, .goto (-75), 225, nI 0)]
theorem bL_isDay_293_ok : z_ok cL_isDay 293 bL_isDay_293 225 = true := by decide +kernel
theorem iL_isDay_293 (hr : z_run 18 bL_isDay_293 ls st = some (ls', st')) (g : z_J Z mL_isDay R k n Q 225 ls' st' h) : z_J Z mL_isDay R k n Q 293 ls st h := z_jr bL_isDay_293 bL_isDay_293_ok hr g
def bL_isDay_303 : zB := [(303, .iload_n 3, 304, nI 0), (304, .iconst 5, 305, nI 5)]
theorem bL_isDay_303_ok : z_ok cL_isDay 303 bL_isDay_303 305 = true := by decide +kernel
theorem iL_isDay_303 (hr : z_run 18 bL_isDay_303 ls st = some (ls', st')) (g : z_J Z mL_isDay R k n Q 305 ls' st' h) : z_J Z mL_isDay R k n Q 303 ls st h := z_jr bL_isDay_303 bL_isDay_303_ok hr g
theorem dL_isDay_305 : decode cL_isDay 305 = .ok (.invokestatic 87, 3) := by decide +kernel
theorem iL_isDay_305 (ha : z_args 2 st [] = some (As, rest)) (hc : z_chk rest As 2 = true) (hR : z_rm R R' 2 k n) (gc : z_J Z mL_low R' 0 0 Q' 0 As [] h) (kr : ∀ (v : Option Value) (h' : zH), Q' (.inl v) h' → z_J Z mL_isDay R (k + R'.cells) (n + R'.slots) Q 308 ls (v.toList ++ rest) h') (kx : ∀ (E : String) (h' : zH), Q' (.inr E) h' → z_JX Z mL_isDay R (k + R'.cells) (n + R'.slots) Q 305 ls E h') : z_J Z mL_isDay R k n Q 305 ls st h := z_callS (M' := mL_low) dL_isDay_305 rfl cs_L_87 gw168 ha hR (z_chk1 hc) (z_chk2 hc) (z_chk3 hc) gc kr kx
def bL_isDay_308 : zB := [(308, .istore 15, 310, nI 0), (310, .iconst 1, 311, nI 1), (311, .iload_n 3, 312, nI 0), (312, .iconst 4, 313, nI 4), (313, .ishr, 314, nI 0), (314, .bipush 9, 316, nI 9)]
theorem bL_isDay_308_ok : z_ok cL_isDay 308 bL_isDay_308 316 = true := by decide +kernel
theorem iL_isDay_308 (hr : z_run 18 bL_isDay_308 ls st = some (ls', st')) (g : z_J Z mL_isDay R k n Q 316 ls' st' h) : z_J Z mL_isDay R k n Q 308 ls st h := z_jr bL_isDay_308 bL_isDay_308_ok hr g
theorem dL_isDay_316 : decode cL_isDay 316 = .ok (.invokestatic 87, 3) := by decide +kernel
theorem iL_isDay_316 (ha : z_args 2 st [] = some (As, rest)) (hc : z_chk rest As 2 = true) (hR : z_rm R R' 2 k n) (gc : z_J Z mL_low R' 0 0 Q' 0 As [] h) (kr : ∀ (v : Option Value) (h' : zH), Q' (.inl v) h' → z_J Z mL_isDay R (k + R'.cells) (n + R'.slots) Q 319 ls (v.toList ++ rest) h') (kx : ∀ (E : String) (h' : zH), Q' (.inr E) h' → z_JX Z mL_isDay R (k + R'.cells) (n + R'.slots) Q 316 ls E h') : z_J Z mL_isDay R k n Q 316 ls st h := z_callS (M' := mL_low) dL_isDay_316 rfl cs_L_87 gw168 ha hR (z_chk1 hc) (z_chk2 hc) (z_chk3 hc) gc kr kx
def bL_isDay_319 : zB := [(319, .iadd, 320, nI 0), (320, .istore 16, 322, nI 0), (322, .aload 13, 324, nI 0), (324, .iconst 4, 325, nI 4)]
theorem bL_isDay_319_ok : z_ok cL_isDay 319 bL_isDay_319 325 = true := by decide +kernel
theorem iL_isDay_319 (hr : z_run 18 bL_isDay_319 ls st = some (ls', st')) (g : z_J Z mL_isDay R k n Q 325 ls' st' h) : z_J Z mL_isDay R k n Q 319 ls st h := z_jr bL_isDay_319 bL_isDay_319_ok hr g
theorem dL_isDay_325 : decode cL_isDay 325 = .ok (.iaload, 1) := by decide +kernel
theorem iL_isDay_325 {f : Nat → Int32} (hh : h r = some (a, .inl (0, N, .inl f))) (hi : i = nI j) (hj : j < N) (hN : N < 2 ^ 31) (g : z_J Z mL_isDay R k n Q 326 ls (.int (f j) :: st) h) : z_J Z mL_isDay R k n Q 325 ls (.int i :: .ref a :: st) h := z_iald dL_isDay_325 rfl hh hi hj hN g
def bL_isDay_326 : zB := [(326, .sipush 5000, 329, nI 5000), (329, .aload 4, 331, nI 0), (331, .aload 5, 333, nI 0), (333, .aload 13, 335, nI 0), (335, .iload_n 1, 336, nI 0), (336, .iload 15, 338, nI 0), (338, .iload 16, 340, nI 0)]
theorem bL_isDay_326_ok : z_ok cL_isDay 326 bL_isDay_326 340 = true := by decide +kernel
theorem iL_isDay_326 (hr : z_run 18 bL_isDay_326 ls st = some (ls', st')) (g : z_J Z mL_isDay R k n Q 340 ls' st' h) : z_J Z mL_isDay R k n Q 326 ls st h := z_jr bL_isDay_326 bL_isDay_326_ok hr g
theorem dL_isDay_340 : decode cL_isDay 340 = .ok (.invokestatic 83, 3) := by decide +kernel
theorem iL_isDay_340 (ha : z_args 6 st [] = some (As, rest)) (hc : z_chk rest As 8 = true) (hR : z_rm R R' 8 k n) (gc : z_J Z mL_rightsFor R' 0 0 Q' 0 As [] h) (kr : ∀ (v : Option Value) (h' : zH), Q' (.inl v) h' → z_J Z mL_isDay R (k + R'.cells) (n + R'.slots) Q 343 ls (v.toList ++ rest) h') (kx : ∀ (E : String) (h' : zH), Q' (.inr E) h' → z_JX Z mL_isDay R (k + R'.cells) (n + R'.slots) Q 340 ls E h') : z_J Z mL_isDay R k n Q 340 ls st h := z_callS (M' := mL_rightsFor) dL_isDay_340 rfl cs_L_83 gw571 ha hR (z_chk1 hc) (z_chk2 hc) (z_chk3 hc) gc kr kx
def bL_isDay_343 : zB := [(343, .aload 4, 345, nI 0), (345, .aload 11, 347, nI 0), (347, .aload 12, 349, nI 0), (349, .aload 13, 351, nI 0)]
theorem bL_isDay_343_ok : z_ok cL_isDay 343 bL_isDay_343 351 = true := by decide +kernel
theorem iL_isDay_343 (hr : z_run 18 bL_isDay_343 ls st = some (ls', st')) (g : z_J Z mL_isDay R k n Q 351 ls' st' h) : z_J Z mL_isDay R k n Q 343 ls st h := z_jr bL_isDay_343 bL_isDay_343_ok hr g
theorem dL_isDay_351 : decode cL_isDay 351 = .ok (.invokestatic 138, 3) := by decide +kernel
theorem iL_isDay_351 (ha : z_args 7 st [] = some (As, rest)) (hc : z_chk rest As 12 = true) (hR : z_rm R R' 12 k n) (gc : z_J Z mL_lacks R' 0 0 Q' 0 As [] h) (kr : ∀ (v : Option Value) (h' : zH), Q' (.inl v) h' → z_J Z mL_isDay R (k + R'.cells) (n + R'.slots) Q 354 ls (v.toList ++ rest) h') (kx : ∀ (E : String) (h' : zH), Q' (.inr E) h' → z_JX Z mL_isDay R (k + R'.cells) (n + R'.slots) Q 351 ls E h') : z_J Z mL_isDay R k n Q 351 ls st h := z_callS (M' := mL_lacks) dL_isDay_351 rfl cs_L_138 gw717 ha hR (z_chk1 hc) (z_chk2 hc) (z_chk3 hc) gc kr kx
def bL_isDay_354 : zB := [(354, .istore 17, 356, nI 0), (356, .aload_n 0, 357, nI 0), (357, .iload_n 1, 358, nI 0)]
theorem bL_isDay_354_ok : z_ok cL_isDay 354 bL_isDay_354 358 = true := by decide +kernel
theorem iL_isDay_354 (hr : z_run 18 bL_isDay_354 ls st = some (ls', st')) (g : z_J Z mL_isDay R k n Q 358 ls' st' h) : z_J Z mL_isDay R k n Q 354 ls st h := z_jr bL_isDay_354 bL_isDay_354_ok hr g
theorem dL_isDay_358 : decode cL_isDay 358 = .ok (.invokestatic 136, 3) := by decide +kernel
theorem iL_isDay_358 (ha : z_args 2 st [] = some (As, rest)) (hc : z_chk rest As 4 = true) (hR : z_rm R R' 4 k n) (gc : z_J Z mL_lack R' 0 0 Q' 0 As [] h) (kr : ∀ (v : Option Value) (h' : zH), Q' (.inl v) h' → z_J Z mL_isDay R (k + R'.cells) (n + R'.slots) Q 361 ls (v.toList ++ rest) h') (kx : ∀ (E : String) (h' : zH), Q' (.inr E) h' → z_JX Z mL_isDay R (k + R'.cells) (n + R'.slots) Q 358 ls E h') : z_J Z mL_isDay R k n Q 358 ls st h := z_callS (M' := mL_lack) dL_isDay_358 rfl cs_L_136 gw706 ha hR (z_chk1 hc) (z_chk2 hc) (z_chk3 hc) gc kr kx
def bL_isDay_361 : zB := [(361, .iload 14, 363, nI 0)]
theorem bL_isDay_361_ok : z_ok cL_isDay 361 bL_isDay_361 363 = true := by decide +kernel
theorem iL_isDay_361 (hr : z_run 18 bL_isDay_361 ls st = some (ls', st')) (g : z_J Z mL_isDay R k n Q 363 ls' st' h) : z_J Z mL_isDay R k n Q 361 ls st h := z_jr bL_isDay_361 bL_isDay_361_ok hr g
theorem dL_isDay_363 : decode cL_isDay 363 = .ok (.if_icmp .ne 42, 3) := by decide +kernel
theorem iL_isDay_363 (kt : ¬ x = y → z_J Z mL_isDay R k n Q 405 ls st h) (kf : x = y → z_J Z mL_isDay R k n Q 366 ls st h) : z_J Z mL_isDay R k n Q 363 ls (.int y :: .int x :: st) h := z_ic_ne dL_isDay_363 (tgt := 405) (by decide) rfl kt kf
def bL_isDay_366 : zB := [(366, .iload_n 2, 367, nI 0)]
theorem bL_isDay_366_ok : z_ok cL_isDay 366 bL_isDay_366 367 = true := by decide +kernel
theorem iL_isDay_366 (hr : z_run 18 bL_isDay_366 ls st = some (ls', st')) (g : z_J Z mL_isDay R k n Q 367 ls' st' h) : z_J Z mL_isDay R k n Q 366 ls st h := z_jr bL_isDay_366 bL_isDay_366_ok hr g
theorem dL_isDay_367 : decode cL_isDay 367 = .ok (.ifCond .eq 34, 3) := by decide +kernel
theorem iL_isDay_367 (kt : x = 0 → z_J Z mL_isDay R k n Q 401 ls st h) (kf : ¬ x = 0 → z_J Z mL_isDay R k n Q 370 ls st h) : z_J Z mL_isDay R k n Q 367 ls (.int x :: st) h := z_if_eq dL_isDay_367 (tgt := 401) (by decide) rfl kt kf
def bL_isDay_370 : zB := [(370, .aload_n 0, 371, nI 0), (371, .iload_n 1, 372, nI 0)]
theorem bL_isDay_370_ok : z_ok cL_isDay 370 bL_isDay_370 372 = true := by decide +kernel
theorem iL_isDay_370 (hr : z_run 18 bL_isDay_370 ls st = some (ls', st')) (g : z_J Z mL_isDay R k n Q 372 ls' st' h) : z_J Z mL_isDay R k n Q 370 ls st h := z_jr bL_isDay_370 bL_isDay_370_ok hr g
theorem dL_isDay_372 : decode cL_isDay 372 = .ok (.invokestatic 133, 3) := by decide +kernel
theorem iL_isDay_372 (ha : z_args 2 st [] = some (As, rest)) (hc : z_chk rest As 4 = true) (hR : z_rm R R' 4 k n) (gc : z_J Z mL_lackBySets R' 0 0 Q' 0 As [] h) (kr : ∀ (v : Option Value) (h' : zH), Q' (.inl v) h' → z_J Z mL_isDay R (k + R'.cells) (n + R'.slots) Q 375 ls (v.toList ++ rest) h') (kx : ∀ (E : String) (h' : zH), Q' (.inr E) h' → z_JX Z mL_isDay R (k + R'.cells) (n + R'.slots) Q 372 ls E h') : z_J Z mL_isDay R k n Q 372 ls st h := z_callS (M' := mL_lackBySets) dL_isDay_372 rfl cs_L_133 gw686 ha hR (z_chk1 hc) (z_chk2 hc) (z_chk3 hc) gc kr kx
def bL_isDay_375 : zB := [(375, .iload 14, 377, nI 0)]
theorem bL_isDay_375_ok : z_ok cL_isDay 375 bL_isDay_375 377 = true := by decide +kernel
theorem iL_isDay_375 (hr : z_run 18 bL_isDay_375 ls st = some (ls', st')) (g : z_J Z mL_isDay R k n Q 377 ls' st' h) : z_J Z mL_isDay R k n Q 375 ls st h := z_jr bL_isDay_375 bL_isDay_375_ok hr g
theorem dL_isDay_377 : decode cL_isDay 377 = .ok (.if_icmp .ne 28, 3) := by decide +kernel
theorem iL_isDay_377 (kt : ¬ x = y → z_J Z mL_isDay R k n Q 405 ls st h) (kf : x = y → z_J Z mL_isDay R k n Q 380 ls st h) : z_J Z mL_isDay R k n Q 377 ls (.int y :: .int x :: st) h := z_ic_ne dL_isDay_377 (tgt := 405) (by decide) rfl kt kf
def bL_isDay_380 : zB := [(380, .aload_n 0, 381, nI 0), (381, .iload_n 1, 382, nI 0), (382, .iload 15, 384, nI 0), (384, .iload 16, 386, nI 0)]
theorem bL_isDay_380_ok : z_ok cL_isDay 380 bL_isDay_380 386 = true := by decide +kernel
theorem iL_isDay_380 (hr : z_run 18 bL_isDay_380 ls st = some (ls', st')) (g : z_J Z mL_isDay R k n Q 386 ls' st' h) : z_J Z mL_isDay R k n Q 380 ls st h := z_jr bL_isDay_380 bL_isDay_380_ok hr g
theorem dL_isDay_386 : decode cL_isDay 386 = .ok (.invokestatic 142, 3) := by decide +kernel
theorem iL_isDay_386 (ha : z_args 4 st [] = some (As, rest)) (hc : z_chk rest As 6 = true) (hR : z_rm R R' 6 k n) (gc : z_J Z mL_spare R' 0 0 Q' 0 As [] h) (kr : ∀ (v : Option Value) (h' : zH), Q' (.inl v) h' → z_J Z mL_isDay R (k + R'.cells) (n + R'.slots) Q 389 ls (v.toList ++ rest) h') (kx : ∀ (E : String) (h' : zH), Q' (.inr E) h' → z_JX Z mL_isDay R (k + R'.cells) (n + R'.slots) Q 386 ls E h') : z_J Z mL_isDay R k n Q 386 ls st h := z_callS (M' := mL_spare) dL_isDay_386 rfl cs_L_142 gw720 ha hR (z_chk1 hc) (z_chk2 hc) (z_chk3 hc) gc kr kx
def bL_isDay_389 : zB := [(389, .sipush 5000, 392, nI 5000), (392, .iload 17, 394, nI 0), (394, .isub, 395, nI 0), (395, .iload 14, 397, nI 0), (397, .iadd, 398, nI 0)]
theorem bL_isDay_389_ok : z_ok cL_isDay 389 bL_isDay_389 398 = true := by decide +kernel
theorem iL_isDay_389 (hr : z_run 18 bL_isDay_389 ls st = some (ls', st')) (g : z_J Z mL_isDay R k n Q 398 ls' st' h) : z_J Z mL_isDay R k n Q 389 ls st h := z_jr bL_isDay_389 bL_isDay_389_ok hr g
theorem dL_isDay_398 : decode cL_isDay 398 = .ok (.if_icmp .ne 7, 3) := by decide +kernel
theorem iL_isDay_398 (kt : ¬ x = y → z_J Z mL_isDay R k n Q 405 ls st h) (kf : x = y → z_J Z mL_isDay R k n Q 401 ls st h) : z_J Z mL_isDay R k n Q 398 ls (.int y :: .int x :: st) h := z_ic_ne dL_isDay_398 (tgt := 405) (by decide) rfl kt kf
def bL_isDay_401 : zB := [(401, .iconst 1, 402, nI 1), (402, .goto 4, 406, nI 0)]
theorem bL_isDay_401_ok : z_ok cL_isDay 401 bL_isDay_401 406 = true := by decide +kernel
theorem iL_isDay_401 (hr : z_run 18 bL_isDay_401 ls st = some (ls', st')) (g : z_J Z mL_isDay R k n Q 406 ls' st' h) : z_J Z mL_isDay R k n Q 401 ls st h := z_jr bL_isDay_401 bL_isDay_401_ok hr g
def bL_isDay_405 : zB := [(405, .iconst 0, 406, nI 0)]
theorem bL_isDay_405_ok : z_ok cL_isDay 405 bL_isDay_405 406 = true := by decide +kernel
theorem iL_isDay_405 (hr : z_run 18 bL_isDay_405 ls st = some (ls', st')) (g : z_J Z mL_isDay R k n Q 406 ls' st' h) : z_J Z mL_isDay R k n Q 405 ls st h := z_jr bL_isDay_405 bL_isDay_405_ok hr g
theorem dL_isDay_406 : decode cL_isDay 406 = .ok (.ireturn, 1) := by decide +kernel
theorem iL_isDay_406 (hz : narrow .boolean (.int x) = .int x) (hk : k ≤ R.cells) (hs : n ≤ R.slots) (hq : Q (.inl (some (.int x))) h) : z_J Z mL_isDay R k n Q 406 ls [.int x] h := z_iret (ty := .boolean) dL_isDay_406 rfl hz hk hs hq
/-! L_isTold -/
def bL_isTold_0 : zB := [(0, .iload_n 1, 1, nI 0), (1, .bipush 24, 3, nI 24)]
theorem bL_isTold_0_ok : z_ok cL_isTold 0 bL_isTold_0 3 = true := by decide +kernel
theorem iL_isTold_0 (hr : z_run 19 bL_isTold_0 ls st = some (ls', st')) (g : z_J Z mL_isTold R k n Q 3 ls' st' h) : z_J Z mL_isTold R k n Q 0 ls st h := z_jr bL_isTold_0 bL_isTold_0_ok hr g
theorem dL_isTold_3 : decode cL_isTold 3 = .ok (.invokestatic 87, 3) := by decide +kernel
theorem iL_isTold_3 (ha : z_args 2 st [] = some (As, rest)) (hc : z_chk rest As 2 = true) (hR : z_rm R R' 2 k n) (gc : z_J Z mL_low R' 0 0 Q' 0 As [] h) (kr : ∀ (v : Option Value) (h' : zH), Q' (.inl v) h' → z_J Z mL_isTold R (k + R'.cells) (n + R'.slots) Q 6 ls (v.toList ++ rest) h') (kx : ∀ (E : String) (h' : zH), Q' (.inr E) h' → z_JX Z mL_isTold R (k + R'.cells) (n + R'.slots) Q 3 ls E h') : z_J Z mL_isTold R k n Q 3 ls st h := z_callS (M' := mL_low) dL_isTold_3 rfl cs_L_87 gw168 ha hR (z_chk1 hc) (z_chk2 hc) (z_chk3 hc) gc kr kx
def bL_isTold_6 : zB := [(6, .istore 13, 8, nI 0), (8, .iload_n 1, 9, nI 0), (9, .iconst 5, 10, nI 5), (10, .ishr, 11, nI 0), (11, .iconst 5, 12, nI 5)]
theorem bL_isTold_6_ok : z_ok cL_isTold 6 bL_isTold_6 12 = true := by decide +kernel
theorem iL_isTold_6 (hr : z_run 19 bL_isTold_6 ls st = some (ls', st')) (g : z_J Z mL_isTold R k n Q 12 ls' st' h) : z_J Z mL_isTold R k n Q 6 ls st h := z_jr bL_isTold_6 bL_isTold_6_ok hr g
theorem dL_isTold_12 : decode cL_isTold 12 = .ok (.invokestatic 87, 3) := by decide +kernel
theorem iL_isTold_12 (ha : z_args 2 st [] = some (As, rest)) (hc : z_chk rest As 2 = true) (hR : z_rm R R' 2 k n) (gc : z_J Z mL_low R' 0 0 Q' 0 As [] h) (kr : ∀ (v : Option Value) (h' : zH), Q' (.inl v) h' → z_J Z mL_isTold R (k + R'.cells) (n + R'.slots) Q 15 ls (v.toList ++ rest) h') (kx : ∀ (E : String) (h' : zH), Q' (.inr E) h' → z_JX Z mL_isTold R (k + R'.cells) (n + R'.slots) Q 12 ls E h') : z_J Z mL_isTold R k n Q 12 ls st h := z_callS (M' := mL_low) dL_isTold_12 rfl cs_L_87 gw168 ha hR (z_chk1 hc) (z_chk2 hc) (z_chk3 hc) gc kr kx
def bL_isTold_15 : zB := [(15, .istore 14, 17, nI 0), (17, .iconst 0, 18, nI 0), (18, .istore 15, 20, nI 0), (20, .bipush 30, 22, nI 30), (22, .iload 13, 24, nI 0), (24, .imul, 25, nI 0), (25, .istore 16, 27, nI 0)]
theorem bL_isTold_15_ok : z_ok cL_isTold 15 bL_isTold_15 27 = true := by decide +kernel
theorem iL_isTold_15 (hr : z_run 19 bL_isTold_15 ls st = some (ls', st')) (g : z_J Z mL_isTold R k n Q 27 ls' st' h) : z_J Z mL_isTold R k n Q 15 ls st h := z_jr bL_isTold_15 bL_isTold_15_ok hr g
def bL_isTold_27 : zB := [(27, .iload 16, 29, nI 0), (29, .bipush 30, 31, nI 30), (31, .iload 13, 33, nI 0), (33, .imul, 34, nI 0), (34, .bipush 30, 36, nI 30), (36, .iadd, 37, nI 0)]
theorem bL_isTold_27_ok : z_ok cL_isTold 27 bL_isTold_27 37 = true := by decide +kernel
theorem iL_isTold_27 (hr : z_run 19 bL_isTold_27 ls st = some (ls', st')) (g : z_J Z mL_isTold R k n Q 37 ls' st' h) : z_J Z mL_isTold R k n Q 27 ls st h := z_jr bL_isTold_27 bL_isTold_27_ok hr g
theorem dL_isTold_37 : decode cL_isTold 37 = .ok (.if_icmp .ge 99, 3) := by decide +kernel
theorem iL_isTold_37 (kt : y ≤ x → z_J Z mL_isTold R k n Q 136 ls st h) (kf : ¬ y ≤ x → z_J Z mL_isTold R k n Q 40 ls st h) : z_J Z mL_isTold R k n Q 37 ls (.int y :: .int x :: st) h := z_ic_ge dL_isTold_37 (tgt := 136) (by decide) rfl kt kf
def bL_isTold_40 : zB := [(40, .iload 16, 42, nI 0), (42, .aload_n 2, 43, nI 0), (43, .aload_n 3, 44, nI 0), (44, .aload 4, 46, nI 0), (46, .aload 5, 48, nI 0), (48, .aload 6, 50, nI 0), (50, .aload 7, 52, nI 0), (52, .aload 8, 54, nI 0), (54, .aload 9, 56, nI 0), (56, .aload 10, 58, nI 0), (58, .aload 11, 60, nI 0)]
theorem bL_isTold_40_ok : z_ok cL_isTold 40 bL_isTold_40 60 = true := by decide +kernel
theorem iL_isTold_40 (hr : z_run 19 bL_isTold_40 ls st = some (ls', st')) (g : z_J Z mL_isTold R k n Q 60 ls' st' h) : z_J Z mL_isTold R k n Q 40 ls st h := z_jr bL_isTold_40 bL_isTold_40_ok hr g
theorem dL_isTold_60 : decode cL_isTold 60 = .ok (.invokestatic 119, 3) := by decide +kernel
theorem iL_isTold_60 (ha : z_args 11 st [] = some (As, rest)) (hc : z_chk rest As 16 = true) (hR : z_rm R R' 16 k n) (gc : z_J Z mL_lay R' 0 0 Q' 0 As [] h) (kr : ∀ (v : Option Value) (h' : zH), Q' (.inl v) h' → z_J Z mL_isTold R (k + R'.cells) (n + R'.slots) Q 63 ls (v.toList ++ rest) h') (kx : ∀ (E : String) (h' : zH), Q' (.inr E) h' → z_JX Z mL_isTold R (k + R'.cells) (n + R'.slots) Q 60 ls E h') : z_J Z mL_isTold R k n Q 60 ls st h := z_callS (M' := mL_lay) dL_isTold_60 rfl cs_L_119 gw565 ha hR (z_chk1 hc) (z_chk2 hc) (z_chk3 hc) gc kr kx
def bL_isTold_63 : zB := [(63, .iconst 0, 64, nI 0), (64, .istore 17, 66, nI 0), (66, .iconst 0, 67, nI 0), (67, .istore 18, 69, nI 0)]
theorem bL_isTold_63_ok : z_ok cL_isTold 63 bL_isTold_63 69 = true := by decide +kernel
theorem iL_isTold_63 (hr : z_run 19 bL_isTold_63 ls st = some (ls', st')) (g : z_J Z mL_isTold R k n Q 69 ls' st' h) : z_J Z mL_isTold R k n Q 63 ls st h := z_jr bL_isTold_63 bL_isTold_63_ok hr g
def bL_isTold_69 : zB := [(69, .iload 18, 71, nI 0), (71, .aload 11, 73, nI 0), (73, .iconst 4, 74, nI 4)]
theorem bL_isTold_69_ok : z_ok cL_isTold 69 bL_isTold_69 74 = true := by decide +kernel
theorem iL_isTold_69 (hr : z_run 19 bL_isTold_69 ls st = some (ls', st')) (g : z_J Z mL_isTold R k n Q 74 ls' st' h) : z_J Z mL_isTold R k n Q 69 ls st h := z_jr bL_isTold_69 bL_isTold_69_ok hr g
theorem dL_isTold_74 : decode cL_isTold 74 = .ok (.iaload, 1) := by decide +kernel
theorem iL_isTold_74 {f : Nat → Int32} (hh : h r = some (a, .inl (0, N, .inl f))) (hi : i = nI j) (hj : j < N) (hN : N < 2 ^ 31) (g : z_J Z mL_isTold R k n Q 75 ls (.int (f j) :: st) h) : z_J Z mL_isTold R k n Q 74 ls (.int i :: .ref a :: st) h := z_iald dL_isTold_74 rfl hh hi hj hN g
theorem dL_isTold_75 : decode cL_isTold 75 = .ok (.if_icmp .ge 39, 3) := by decide +kernel
theorem iL_isTold_75 (kt : y ≤ x → z_J Z mL_isTold R k n Q 114 ls st h) (kf : ¬ y ≤ x → z_J Z mL_isTold R k n Q 78 ls st h) : z_J Z mL_isTold R k n Q 75 ls (.int y :: .int x :: st) h := z_ic_ge dL_isTold_75 (tgt := 114) (by decide) rfl kt kf
def bL_isTold_78 : zB := [(78, .iload 17, 80, nI 0), (80, .aload 8, 82, nI 0), (82, .iload 18, 84, nI 0)]
theorem bL_isTold_78_ok : z_ok cL_isTold 78 bL_isTold_78 84 = true := by decide +kernel
theorem iL_isTold_78 (hr : z_run 19 bL_isTold_78 ls st = some (ls', st')) (g : z_J Z mL_isTold R k n Q 84 ls' st' h) : z_J Z mL_isTold R k n Q 78 ls st h := z_jr bL_isTold_78 bL_isTold_78_ok hr g
theorem dL_isTold_84 : decode cL_isTold 84 = .ok (.iaload, 1) := by decide +kernel
theorem iL_isTold_84 {f : Nat → Int32} (hh : h r = some (a, .inl (0, N, .inl f))) (hi : i = nI j) (hj : j < N) (hN : N < 2 ^ 31) (g : z_J Z mL_isTold R k n Q 85 ls (.int (f j) :: st) h) : z_J Z mL_isTold R k n Q 84 ls (.int i :: .ref a :: st) h := z_iald dL_isTold_84 rfl hh hi hj hN g
def bL_isTold_85 : zB := [(85, .bipush 10, 87, nI 10)]
theorem bL_isTold_85_ok : z_ok cL_isTold 85 bL_isTold_85 87 = true := by decide +kernel
theorem iL_isTold_85 (hr : z_run 19 bL_isTold_85 ls st = some (ls', st')) (g : z_J Z mL_isTold R k n Q 87 ls' st' h) : z_J Z mL_isTold R k n Q 85 ls st h := z_jr bL_isTold_85 bL_isTold_85_ok hr g
theorem dL_isTold_87 : decode cL_isTold 87 = .ok (.idiv, 1) := by decide +kernel
theorem iL_isTold_87 (hy : ¬ y = 0) (g : z_J Z mL_isTold R k n Q 88 ls (.int (x / y) :: st) h) : z_J Z mL_isTold R k n Q 87 ls (.int y :: .int x :: st) h := z_idiv dL_isTold_87 rfl hy g
def bL_isTold_88 : zB := [(88, .bipush 10, 90, nI 10)]
theorem bL_isTold_88_ok : z_ok cL_isTold 88 bL_isTold_88 90 = true := by decide +kernel
theorem iL_isTold_88 (hr : z_run 19 bL_isTold_88 ls st = some (ls', st')) (g : z_J Z mL_isTold R k n Q 90 ls' st' h) : z_J Z mL_isTold R k n Q 88 ls st h := z_jr bL_isTold_88 bL_isTold_88_ok hr g
theorem dL_isTold_90 : decode cL_isTold 90 = .ok (.irem, 1) := by decide +kernel
theorem iL_isTold_90 (hy : ¬ y = 0) (g : z_J Z mL_isTold R k n Q 91 ls (.int (x - x / y * y) :: st) h) : z_J Z mL_isTold R k n Q 90 ls (.int y :: .int x :: st) h := z_irem dL_isTold_90 rfl hy g
def bL_isTold_91 : zB := [(91, .iload 14, 93, nI 0)]
theorem bL_isTold_91_ok : z_ok cL_isTold 91 bL_isTold_91 93 = true := by decide +kernel
theorem iL_isTold_91 (hr : z_run 19 bL_isTold_91 ls st = some (ls', st')) (g : z_J Z mL_isTold R k n Q 93 ls' st' h) : z_J Z mL_isTold R k n Q 91 ls st h := z_jr bL_isTold_91 bL_isTold_91_ok hr g
theorem dL_isTold_93 : decode cL_isTold 93 = .ok (.if_icmp .ne 11, 3) := by decide +kernel
theorem iL_isTold_93 (kt : ¬ x = y → z_J Z mL_isTold R k n Q 104 ls st h) (kf : x = y → z_J Z mL_isTold R k n Q 96 ls st h) : z_J Z mL_isTold R k n Q 93 ls (.int y :: .int x :: st) h := z_ic_ne dL_isTold_93 (tgt := 104) (by decide) rfl kt kf
def bL_isTold_96 : zB := [(96, .aload 9, 98, nI 0), (98, .iload 18, 100, nI 0)]
theorem bL_isTold_96_ok : z_ok cL_isTold 96 bL_isTold_96 100 = true := by decide +kernel
theorem iL_isTold_96 (hr : z_run 19 bL_isTold_96 ls st = some (ls', st')) (g : z_J Z mL_isTold R k n Q 100 ls' st' h) : z_J Z mL_isTold R k n Q 96 ls st h := z_jr bL_isTold_96 bL_isTold_96_ok hr g
theorem dL_isTold_100 : decode cL_isTold 100 = .ok (.iaload, 1) := by decide +kernel
theorem iL_isTold_100 {f : Nat → Int32} (hh : h r = some (a, .inl (0, N, .inl f))) (hi : i = nI j) (hj : j < N) (hN : N < 2 ^ 31) (g : z_J Z mL_isTold R k n Q 101 ls (.int (f j) :: st) h) : z_J Z mL_isTold R k n Q 100 ls (.int i :: .ref a :: st) h := z_iald dL_isTold_100 rfl hh hi hj hN g
def bL_isTold_101 : zB := [(101, .goto 4, 105, nI 0)]
theorem bL_isTold_101_ok : z_ok cL_isTold 101 bL_isTold_101 105 = true := by decide +kernel
theorem iL_isTold_101 (hr : z_run 19 bL_isTold_101 ls st = some (ls', st')) (g : z_J Z mL_isTold R k n Q 105 ls' st' h) : z_J Z mL_isTold R k n Q 101 ls st h := z_jr bL_isTold_101 bL_isTold_101_ok hr g
def bL_isTold_104 : zB := [(104, .iconst 0, 105, nI 0)]
theorem bL_isTold_104_ok : z_ok cL_isTold 104 bL_isTold_104 105 = true := by decide +kernel
theorem iL_isTold_104 (hr : z_run 19 bL_isTold_104 ls st = some (ls', st')) (g : z_J Z mL_isTold R k n Q 105 ls' st' h) : z_J Z mL_isTold R k n Q 104 ls st h := z_jr bL_isTold_104 bL_isTold_104_ok hr g
def bL_isTold_105 : zB := [(105, .iadd, 106, nI 0), (106, .istore 17, 108, nI 0), (108, .iinc 18 1, 111, nI 1), (111, .goto (-42), 69, nI 0)]
theorem bL_isTold_105_ok : z_ok cL_isTold 105 bL_isTold_105 69 = true := by decide +kernel
theorem iL_isTold_105 (hr : z_run 19 bL_isTold_105 ls st = some (ls', st')) (g : z_J Z mL_isTold R k n Q 69 ls' st' h) : z_J Z mL_isTold R k n Q 105 ls st h := z_jr bL_isTold_105 bL_isTold_105_ok hr g
def bL_isTold_114 : zB := [(114, .iload 17, 116, nI 0), (116, .iload 15, 118, nI 0)]
theorem bL_isTold_114_ok : z_ok cL_isTold 114 bL_isTold_114 118 = true := by decide +kernel
theorem iL_isTold_114 (hr : z_run 19 bL_isTold_114 ls st = some (ls', st')) (g : z_J Z mL_isTold R k n Q 118 ls' st' h) : z_J Z mL_isTold R k n Q 114 ls st h := z_jr bL_isTold_114 bL_isTold_114_ok hr g
theorem dL_isTold_118 : decode cL_isTold 118 = .ok (.if_icmp .le 8, 3) := by decide +kernel
theorem iL_isTold_118 (kt : x ≤ y → z_J Z mL_isTold R k n Q 126 ls st h) (kf : ¬ x ≤ y → z_J Z mL_isTold R k n Q 121 ls st h) : z_J Z mL_isTold R k n Q 118 ls (.int y :: .int x :: st) h := z_ic_le dL_isTold_118 (tgt := 126) (by decide) rfl kt kf
def bL_isTold_121 : zB := [(121, .iload 17, 123, nI 0), (123, .goto 5, 128, nI 0)]
theorem bL_isTold_121_ok : z_ok cL_isTold 121 bL_isTold_121 128 = true := by decide +kernel
theorem iL_isTold_121 (hr : z_run 19 bL_isTold_121 ls st = some (ls', st')) (g : z_J Z mL_isTold R k n Q 128 ls' st' h) : z_J Z mL_isTold R k n Q 121 ls st h := z_jr bL_isTold_121 bL_isTold_121_ok hr g
def bL_isTold_126 : zB := [(126, .iload 15, 128, nI 0)]
theorem bL_isTold_126_ok : z_ok cL_isTold 126 bL_isTold_126 128 = true := by decide +kernel
theorem iL_isTold_126 (hr : z_run 19 bL_isTold_126 ls st = some (ls', st')) (g : z_J Z mL_isTold R k n Q 128 ls' st' h) : z_J Z mL_isTold R k n Q 126 ls st h := z_jr bL_isTold_126 bL_isTold_126_ok hr g
def bL_isTold_128 : zB := [(128, .istore 15, 130, nI 0), (130, .iinc 16 1, 133, nI 1), (133, .goto (-106), 27, nI 0)]
theorem bL_isTold_128_ok : z_ok cL_isTold 128 bL_isTold_128 27 = true := by decide +kernel
theorem iL_isTold_128 (hr : z_run 19 bL_isTold_128 ls st = some (ls', st')) (g : z_J Z mL_isTold R k n Q 27 ls' st' h) : z_J Z mL_isTold R k n Q 128 ls st h := z_jr bL_isTold_128 bL_isTold_128_ok hr g
def bL_isTold_136 : zB := [(136, .aload_n 0, 137, nI 0), (137, .iload 14, 139, nI 0), (139, .iload 13, 141, nI 0)]
theorem bL_isTold_136_ok : z_ok cL_isTold 136 bL_isTold_136 141 = true := by decide +kernel
theorem iL_isTold_136 (hr : z_run 19 bL_isTold_136 ls st = some (ls', st')) (g : z_J Z mL_isTold R k n Q 141 ls' st' h) : z_J Z mL_isTold R k n Q 136 ls st h := z_jr bL_isTold_136 bL_isTold_136_ok hr g
theorem dL_isTold_141 : decode cL_isTold 141 = .ok (.invokestatic 144, 3) := by decide +kernel
theorem iL_isTold_141 (ha : z_args 3 st [] = some (As, rest)) (hc : z_chk rest As 5 = true) (hR : z_rm R R' 5 k n) (gc : z_J Z mL_most R' 0 0 Q' 0 As [] h) (kr : ∀ (v : Option Value) (h' : zH), Q' (.inl v) h' → z_J Z mL_isTold R (k + R'.cells) (n + R'.slots) Q 144 ls (v.toList ++ rest) h') (kx : ∀ (E : String) (h' : zH), Q' (.inr E) h' → z_JX Z mL_isTold R (k + R'.cells) (n + R'.slots) Q 141 ls E h') : z_J Z mL_isTold R k n Q 141 ls st h := z_callS (M' := mL_most) dL_isTold_141 rfl cs_L_144 gw574 ha hR (z_chk1 hc) (z_chk2 hc) (z_chk3 hc) gc kr kx
def bL_isTold_144 : zB := [(144, .iload 15, 146, nI 0)]
theorem bL_isTold_144_ok : z_ok cL_isTold 144 bL_isTold_144 146 = true := by decide +kernel
theorem iL_isTold_144 (hr : z_run 19 bL_isTold_144 ls st = some (ls', st')) (g : z_J Z mL_isTold R k n Q 146 ls' st' h) : z_J Z mL_isTold R k n Q 144 ls st h := z_jr bL_isTold_144 bL_isTold_144_ok hr g
theorem dL_isTold_146 : decode cL_isTold 146 = .ok (.if_icmp .ne 49, 3) := by decide +kernel
theorem iL_isTold_146 (kt : ¬ x = y → z_J Z mL_isTold R k n Q 195 ls st h) (kf : x = y → z_J Z mL_isTold R k n Q 149 ls st h) : z_J Z mL_isTold R k n Q 146 ls (.int y :: .int x :: st) h := z_ic_ne dL_isTold_146 (tgt := 195) (by decide) rfl kt kf
def bL_isTold_149 : zB := [(149, .aload_n 0, 150, nI 0), (150, .iconst 5, 151, nI 5), (151, .bipush 24, 153, nI 24)]
theorem bL_isTold_149_ok : z_ok cL_isTold 149 bL_isTold_149 153 = true := by decide +kernel
theorem iL_isTold_149 (hr : z_run 19 bL_isTold_149 ls st = some (ls', st')) (g : z_J Z mL_isTold R k n Q 153 ls' st' h) : z_J Z mL_isTold R k n Q 149 ls st h := z_jr bL_isTold_149 bL_isTold_149_ok hr g
theorem dL_isTold_153 : decode cL_isTold 153 = .ok (.invokestatic 144, 3) := by decide +kernel
theorem iL_isTold_153 (ha : z_args 3 st [] = some (As, rest)) (hc : z_chk rest As 5 = true) (hR : z_rm R R' 5 k n) (gc : z_J Z mL_most R' 0 0 Q' 0 As [] h) (kr : ∀ (v : Option Value) (h' : zH), Q' (.inl v) h' → z_J Z mL_isTold R (k + R'.cells) (n + R'.slots) Q 156 ls (v.toList ++ rest) h') (kx : ∀ (E : String) (h' : zH), Q' (.inr E) h' → z_JX Z mL_isTold R (k + R'.cells) (n + R'.slots) Q 153 ls E h') : z_J Z mL_isTold R k n Q 153 ls st h := z_callS (M' := mL_most) dL_isTold_153 rfl cs_L_144 gw574 ha hR (z_chk1 hc) (z_chk2 hc) (z_chk3 hc) gc kr kx
def bL_isTold_156 : zB := [(156, .bipush (-71), 158, -71)]
theorem bL_isTold_156_ok : z_ok cL_isTold 156 bL_isTold_156 158 = true := by decide +kernel
theorem iL_isTold_156 (hr : z_run 19 bL_isTold_156 ls st = some (ls', st')) (g : z_J Z mL_isTold R k n Q 158 ls' st' h) : z_J Z mL_isTold R k n Q 156 ls st h := z_jr bL_isTold_156 bL_isTold_156_ok hr g
theorem dL_isTold_158 : decode cL_isTold 158 = .ok (.if_icmp .ne 37, 3) := by decide +kernel
theorem iL_isTold_158 (kt : ¬ x = y → z_J Z mL_isTold R k n Q 195 ls st h) (kf : x = y → z_J Z mL_isTold R k n Q 161 ls st h) : z_J Z mL_isTold R k n Q 158 ls (.int y :: .int x :: st) h := z_ic_ne dL_isTold_158 (tgt := 195) (by decide) rfl kt kf
def bL_isTold_161 : zB := [(161, .aload_n 0, 162, nI 0), (162, .iconst (-1), 163, -1), (163, .iconst 0, 164, nI 0)]
theorem bL_isTold_161_ok : z_ok cL_isTold 161 bL_isTold_161 164 = true := by decide +kernel
theorem iL_isTold_161 (hr : z_run 19 bL_isTold_161 ls st = some (ls', st')) (g : z_J Z mL_isTold R k n Q 164 ls' st' h) : z_J Z mL_isTold R k n Q 161 ls st h := z_jr bL_isTold_161 bL_isTold_161_ok hr g
theorem dL_isTold_164 : decode cL_isTold 164 = .ok (.invokestatic 144, 3) := by decide +kernel
theorem iL_isTold_164 (ha : z_args 3 st [] = some (As, rest)) (hc : z_chk rest As 5 = true) (hR : z_rm R R' 5 k n) (gc : z_J Z mL_most R' 0 0 Q' 0 As [] h) (kr : ∀ (v : Option Value) (h' : zH), Q' (.inl v) h' → z_J Z mL_isTold R (k + R'.cells) (n + R'.slots) Q 167 ls (v.toList ++ rest) h') (kx : ∀ (E : String) (h' : zH), Q' (.inr E) h' → z_JX Z mL_isTold R (k + R'.cells) (n + R'.slots) Q 164 ls E h') : z_J Z mL_isTold R k n Q 164 ls st h := z_callS (M' := mL_most) dL_isTold_164 rfl cs_L_144 gw574 ha hR (z_chk1 hc) (z_chk2 hc) (z_chk3 hc) gc kr kx
def bL_isTold_167 : zB := [(167, .bipush (-71), 169, -71)]
theorem bL_isTold_167_ok : z_ok cL_isTold 167 bL_isTold_167 169 = true := by decide +kernel
theorem iL_isTold_167 (hr : z_run 19 bL_isTold_167 ls st = some (ls', st')) (g : z_J Z mL_isTold R k n Q 169 ls' st' h) : z_J Z mL_isTold R k n Q 167 ls st h := z_jr bL_isTold_167 bL_isTold_167_ok hr g
theorem dL_isTold_169 : decode cL_isTold 169 = .ok (.if_icmp .ne 26, 3) := by decide +kernel
theorem iL_isTold_169 (kt : ¬ x = y → z_J Z mL_isTold R k n Q 195 ls st h) (kf : x = y → z_J Z mL_isTold R k n Q 172 ls st h) : z_J Z mL_isTold R k n Q 169 ls (.int y :: .int x :: st) h := z_ic_ne dL_isTold_169 (tgt := 195) (by decide) rfl kt kf
def bL_isTold_172 : zB := [(172, .aload_n 0, 173, nI 0), (173, .iconst 0, 174, nI 0), (174, .bipush 24, 176, nI 24)]
theorem bL_isTold_172_ok : z_ok cL_isTold 172 bL_isTold_172 176 = true := by decide +kernel
theorem iL_isTold_172 (hr : z_run 19 bL_isTold_172 ls st = some (ls', st')) (g : z_J Z mL_isTold R k n Q 176 ls' st' h) : z_J Z mL_isTold R k n Q 172 ls st h := z_jr bL_isTold_172 bL_isTold_172_ok hr g
theorem dL_isTold_176 : decode cL_isTold 176 = .ok (.invokestatic 144, 3) := by decide +kernel
theorem iL_isTold_176 (ha : z_args 3 st [] = some (As, rest)) (hc : z_chk rest As 5 = true) (hR : z_rm R R' 5 k n) (gc : z_J Z mL_most R' 0 0 Q' 0 As [] h) (kr : ∀ (v : Option Value) (h' : zH), Q' (.inl v) h' → z_J Z mL_isTold R (k + R'.cells) (n + R'.slots) Q 179 ls (v.toList ++ rest) h') (kx : ∀ (E : String) (h' : zH), Q' (.inr E) h' → z_JX Z mL_isTold R (k + R'.cells) (n + R'.slots) Q 176 ls E h') : z_J Z mL_isTold R k n Q 176 ls st h := z_callS (M' := mL_most) dL_isTold_176 rfl cs_L_144 gw574 ha hR (z_chk1 hc) (z_chk2 hc) (z_chk3 hc) gc kr kx
def bL_isTold_179 : zB := [(179, .bipush (-72), 181, -72)]
theorem bL_isTold_179_ok : z_ok cL_isTold 179 bL_isTold_179 181 = true := by decide +kernel
theorem iL_isTold_179 (hr : z_run 19 bL_isTold_179 ls st = some (ls', st')) (g : z_J Z mL_isTold R k n Q 181 ls' st' h) : z_J Z mL_isTold R k n Q 179 ls st h := z_jr bL_isTold_179 bL_isTold_179_ok hr g
theorem dL_isTold_181 : decode cL_isTold 181 = .ok (.if_icmp .ne 14, 3) := by decide +kernel
theorem iL_isTold_181 (kt : ¬ x = y → z_J Z mL_isTold R k n Q 195 ls st h) (kf : x = y → z_J Z mL_isTold R k n Q 184 ls st h) : z_J Z mL_isTold R k n Q 181 ls (.int y :: .int x :: st) h := z_ic_ne dL_isTold_181 (tgt := 195) (by decide) rfl kt kf
def bL_isTold_184 : zB := [(184, .aload_n 0, 185, nI 0), (185, .iconst 0, 186, nI 0), (186, .iconst (-1), 187, -1)]
theorem bL_isTold_184_ok : z_ok cL_isTold 184 bL_isTold_184 187 = true := by decide +kernel
theorem iL_isTold_184 (hr : z_run 19 bL_isTold_184 ls st = some (ls', st')) (g : z_J Z mL_isTold R k n Q 187 ls' st' h) : z_J Z mL_isTold R k n Q 184 ls st h := z_jr bL_isTold_184 bL_isTold_184_ok hr g
theorem dL_isTold_187 : decode cL_isTold 187 = .ok (.invokestatic 144, 3) := by decide +kernel
theorem iL_isTold_187 (ha : z_args 3 st [] = some (As, rest)) (hc : z_chk rest As 5 = true) (hR : z_rm R R' 5 k n) (gc : z_J Z mL_most R' 0 0 Q' 0 As [] h) (kr : ∀ (v : Option Value) (h' : zH), Q' (.inl v) h' → z_J Z mL_isTold R (k + R'.cells) (n + R'.slots) Q 190 ls (v.toList ++ rest) h') (kx : ∀ (E : String) (h' : zH), Q' (.inr E) h' → z_JX Z mL_isTold R (k + R'.cells) (n + R'.slots) Q 187 ls E h') : z_J Z mL_isTold R k n Q 187 ls st h := z_callS (M' := mL_most) dL_isTold_187 rfl cs_L_144 gw574 ha hR (z_chk1 hc) (z_chk2 hc) (z_chk3 hc) gc kr kx
def bL_isTold_190 : zB := [(190, .bipush (-72), 192, -72)]
theorem bL_isTold_190_ok : z_ok cL_isTold 190 bL_isTold_190 192 = true := by decide +kernel
theorem iL_isTold_190 (hr : z_run 19 bL_isTold_190 ls st = some (ls', st')) (g : z_J Z mL_isTold R k n Q 192 ls' st' h) : z_J Z mL_isTold R k n Q 190 ls st h := z_jr bL_isTold_190 bL_isTold_190_ok hr g
theorem dL_isTold_192 : decode cL_isTold 192 = .ok (.if_icmp .eq 5, 3) := by decide +kernel
theorem iL_isTold_192 (kt : x = y → z_J Z mL_isTold R k n Q 197 ls st h) (kf : ¬ x = y → z_J Z mL_isTold R k n Q 195 ls st h) : z_J Z mL_isTold R k n Q 192 ls (.int y :: .int x :: st) h := z_ic_eq dL_isTold_192 (tgt := 197) (by decide) rfl kt kf
def bL_isTold_195 : zB := [(195, .iconst 0, 196, nI 0)]
theorem bL_isTold_195_ok : z_ok cL_isTold 195 bL_isTold_195 196 = true := by decide +kernel
theorem iL_isTold_195 (hr : z_run 19 bL_isTold_195 ls st = some (ls', st')) (g : z_J Z mL_isTold R k n Q 196 ls' st' h) : z_J Z mL_isTold R k n Q 195 ls st h := z_jr bL_isTold_195 bL_isTold_195_ok hr g
theorem dL_isTold_196 : decode cL_isTold 196 = .ok (.ireturn, 1) := by decide +kernel
theorem iL_isTold_196 (hz : narrow .boolean (.int x) = .int x) (hk : k ≤ R.cells) (hs : n ≤ R.slots) (hq : Q (.inl (some (.int x))) h) : z_J Z mL_isTold R k n Q 196 ls [.int x] h := z_iret (ty := .boolean) dL_isTold_196 rfl hz hk hs hq
def bL_isTold_197 : zB := [(197, .aload 11, 199, nI 0), (199, .iconst 3, 200, nI 3)]
theorem bL_isTold_197_ok : z_ok cL_isTold 197 bL_isTold_197 200 = true := by decide +kernel
theorem iL_isTold_197 (hr : z_run 19 bL_isTold_197 ls st = some (ls', st')) (g : z_J Z mL_isTold R k n Q 200 ls' st' h) : z_J Z mL_isTold R k n Q 197 ls st h := z_jr bL_isTold_197 bL_isTold_197_ok hr g
theorem dL_isTold_200 : decode cL_isTold 200 = .ok (.iaload, 1) := by decide +kernel
theorem iL_isTold_200 {f : Nat → Int32} (hh : h r = some (a, .inl (0, N, .inl f))) (hi : i = nI j) (hj : j < N) (hN : N < 2 ^ 31) (g : z_J Z mL_isTold R k n Q 201 ls (.int (f j) :: st) h) : z_J Z mL_isTold R k n Q 200 ls (.int i :: .ref a :: st) h := z_iald dL_isTold_200 rfl hh hi hj hN g
theorem dL_isTold_201 : decode cL_isTold 201 = .ok (.ifCond .ne 13, 3) := by decide +kernel
theorem iL_isTold_201 (kt : ¬ x = 0 → z_J Z mL_isTold R k n Q 214 ls st h) (kf : x = 0 → z_J Z mL_isTold R k n Q 204 ls st h) : z_J Z mL_isTold R k n Q 201 ls (.int x :: st) h := z_if_ne dL_isTold_201 (tgt := 214) (by decide) rfl kt kf
def bL_isTold_204 : zB := [(204, .iload_n 1, 205, nI 0), (205, .sipush 721, 208, nI 721)]
theorem bL_isTold_204_ok : z_ok cL_isTold 204 bL_isTold_204 208 = true := by decide +kernel
theorem iL_isTold_204 (hr : z_run 19 bL_isTold_204 ls st = some (ls', st')) (g : z_J Z mL_isTold R k n Q 208 ls' st' h) : z_J Z mL_isTold R k n Q 204 ls st h := z_jr bL_isTold_204 bL_isTold_204_ok hr g
theorem dL_isTold_208 : decode cL_isTold 208 = .ok (.invokestatic 87, 3) := by decide +kernel
theorem iL_isTold_208 (ha : z_args 2 st [] = some (As, rest)) (hc : z_chk rest As 2 = true) (hR : z_rm R R' 2 k n) (gc : z_J Z mL_low R' 0 0 Q' 0 As [] h) (kr : ∀ (v : Option Value) (h' : zH), Q' (.inl v) h' → z_J Z mL_isTold R (k + R'.cells) (n + R'.slots) Q 211 ls (v.toList ++ rest) h') (kx : ∀ (E : String) (h' : zH), Q' (.inr E) h' → z_JX Z mL_isTold R (k + R'.cells) (n + R'.slots) Q 208 ls E h') : z_J Z mL_isTold R k n Q 208 ls st h := z_callS (M' := mL_low) dL_isTold_208 rfl cs_L_87 gw168 ha hR (z_chk1 hc) (z_chk2 hc) (z_chk3 hc) gc kr kx
def bL_isTold_211 : zB := [(211, .goto 20, 231, nI 0)]
theorem bL_isTold_211_ok : z_ok cL_isTold 211 bL_isTold_211 231 = true := by decide +kernel
theorem iL_isTold_211 (hr : z_run 19 bL_isTold_211 ls st = some (ls', st')) (g : z_J Z mL_isTold R k n Q 231 ls' st' h) : z_J Z mL_isTold R k n Q 211 ls st h := z_jr bL_isTold_211 bL_isTold_211_ok hr g
def bL_isTold_214 : zB := [(214, .aload 7, 216, nI 0), (216, .iload_n 1, 217, nI 0), (217, .iconst 4, 218, nI 4), (218, .ishr, 219, nI 0), (219, .aload 11, 221, nI 0), (221, .iconst 3, 222, nI 3)]
theorem bL_isTold_214_ok : z_ok cL_isTold 214 bL_isTold_214 222 = true := by decide +kernel
theorem iL_isTold_214 (hr : z_run 19 bL_isTold_214 ls st = some (ls', st')) (g : z_J Z mL_isTold R k n Q 222 ls' st' h) : z_J Z mL_isTold R k n Q 214 ls st h := z_jr bL_isTold_214 bL_isTold_214_ok hr g
theorem dL_isTold_222 : decode cL_isTold 222 = .ok (.iaload, 1) := by decide +kernel
theorem iL_isTold_222 {f : Nat → Int32} (hh : h r = some (a, .inl (0, N, .inl f))) (hi : i = nI j) (hj : j < N) (hN : N < 2 ^ 31) (g : z_J Z mL_isTold R k n Q 223 ls (.int (f j) :: st) h) : z_J Z mL_isTold R k n Q 222 ls (.int i :: .ref a :: st) h := z_iald dL_isTold_222 rfl hh hi hj hN g
theorem dL_isTold_223 : decode cL_isTold 223 = .ok (.invokestatic 87, 3) := by decide +kernel
theorem iL_isTold_223 (ha : z_args 2 st [] = some (As, rest)) (hc : z_chk rest As 2 = true) (hR : z_rm R R' 2 k n) (gc : z_J Z mL_low R' 0 0 Q' 0 As [] h) (kr : ∀ (v : Option Value) (h' : zH), Q' (.inl v) h' → z_J Z mL_isTold R (k + R'.cells) (n + R'.slots) Q 226 ls (v.toList ++ rest) h') (kx : ∀ (E : String) (h' : zH), Q' (.inr E) h' → z_JX Z mL_isTold R (k + R'.cells) (n + R'.slots) Q 223 ls E h') : z_J Z mL_isTold R k n Q 223 ls st h := z_callS (M' := mL_low) dL_isTold_223 rfl cs_L_87 gw168 ha hR (z_chk1 hc) (z_chk2 hc) (z_chk3 hc) gc kr kx
theorem dL_isTold_226 : decode cL_isTold 226 = .ok (.iaload, 1) := by decide +kernel
theorem iL_isTold_226 {f : Nat → Int32} (hh : h r = some (a, .inl (0, N, .inl f))) (hi : i = nI j) (hj : j < N) (hN : N < 2 ^ 31) (g : z_J Z mL_isTold R k n Q 227 ls (.int (f j) :: st) h) : z_J Z mL_isTold R k n Q 226 ls (.int i :: .ref a :: st) h := z_iald dL_isTold_226 rfl hh hi hj hN g
def bL_isTold_227 : zB := [(227, .sipush 1023, 230, nI 1023), (230, .iand, 231, nI 0)]
theorem bL_isTold_227_ok : z_ok cL_isTold 227 bL_isTold_227 231 = true := by decide +kernel
theorem iL_isTold_227 (hr : z_run 19 bL_isTold_227 ls st = some (ls', st')) (g : z_J Z mL_isTold R k n Q 231 ls' st' h) : z_J Z mL_isTold R k n Q 227 ls st h := z_jr bL_isTold_227 bL_isTold_227_ok hr g
def bL_isTold_231 : zB := [(231, .istore 16, 233, nI 0), (233, .aload_n 0, 234, nI 0), (234, .iload 16, 236, nI 0), (236, .iload 12, 238, nI 0), (238, .iload_n 1, 239, nI 0), (239, .aload_n 2, 240, nI 0), (240, .aload_n 3, 241, nI 0), (241, .aload 4, 243, nI 0), (243, .aload 5, 245, nI 0), (245, .aload 6, 247, nI 0), (247, .aload 7, 249, nI 0), (249, .aload 8, 251, nI 0), (251, .aload 9, 253, nI 0), (253, .aload 10, 255, nI 0), (255, .aload 11, 257, nI 0)]
theorem bL_isTold_231_ok : z_ok cL_isTold 231 bL_isTold_231 257 = true := by decide +kernel
theorem iL_isTold_231 (hr : z_run 19 bL_isTold_231 ls st = some (ls', st')) (g : z_J Z mL_isTold R k n Q 257 ls' st' h) : z_J Z mL_isTold R k n Q 231 ls st h := z_jr bL_isTold_231 bL_isTold_231_ok hr g
theorem dL_isTold_257 : decode cL_isTold 257 = .ok (.invokestatic 146, 3) := by decide +kernel
theorem iL_isTold_257 (ha : z_args 14 st [] = some (As, rest)) (hc : z_chk rest As 18 = true) (hR : z_rm R R' 18 k n) (gc : z_J Z mL_isDay R' 0 0 Q' 0 As [] h) (kr : ∀ (v : Option Value) (h' : zH), Q' (.inl v) h' → z_J Z mL_isTold R (k + R'.cells) (n + R'.slots) Q 260 ls (v.toList ++ rest) h') (kx : ∀ (E : String) (h' : zH), Q' (.inr E) h' → z_JX Z mL_isTold R (k + R'.cells) (n + R'.slots) Q 257 ls E h') : z_J Z mL_isTold R k n Q 257 ls st h := z_callS (M' := mL_isDay) dL_isTold_257 rfl cs_L_146 gw607 ha hR (z_chk1 hc) (z_chk2 hc) (z_chk3 hc) gc kr kx
theorem dL_isTold_260 : decode cL_isTold 260 = .ok (.ifCond .eq 83, 3) := by decide +kernel
theorem iL_isTold_260 (kt : x = 0 → z_J Z mL_isTold R k n Q 343 ls st h) (kf : ¬ x = 0 → z_J Z mL_isTold R k n Q 263 ls st h) : z_J Z mL_isTold R k n Q 260 ls (.int x :: st) h := z_if_eq dL_isTold_260 (tgt := 343) (by decide) rfl kt kf
def bL_isTold_263 : zB := [(263, .iload 12, 265, nI 0)]
theorem bL_isTold_263_ok : z_ok cL_isTold 263 bL_isTold_263 265 = true := by decide +kernel
theorem iL_isTold_263 (hr : z_run 19 bL_isTold_263 ls st = some (ls', st')) (g : z_J Z mL_isTold R k n Q 265 ls' st' h) : z_J Z mL_isTold R k n Q 263 ls st h := z_jr bL_isTold_263 bL_isTold_263_ok hr g
theorem dL_isTold_265 : decode cL_isTold 265 = .ok (.ifCond .eq 80, 3) := by decide +kernel
theorem iL_isTold_265 (kt : x = 0 → z_J Z mL_isTold R k n Q 345 ls st h) (kf : ¬ x = 0 → z_J Z mL_isTold R k n Q 268 ls st h) : z_J Z mL_isTold R k n Q 265 ls (.int x :: st) h := z_if_eq dL_isTold_265 (tgt := 345) (by decide) rfl kt kf
def bL_isTold_268 : zB := [(268, .aload_n 0, 269, nI 0), (269, .iload_n 1, 270, nI 0), (270, .iconst 3, 271, nI 3), (271, .ishr, 272, nI 0), (272, .sipush 721, 275, nI 721)]
theorem bL_isTold_268_ok : z_ok cL_isTold 268 bL_isTold_268 275 = true := by decide +kernel
theorem iL_isTold_268 (hr : z_run 19 bL_isTold_268 ls st = some (ls', st')) (g : z_J Z mL_isTold R k n Q 275 ls' st' h) : z_J Z mL_isTold R k n Q 268 ls st h := z_jr bL_isTold_268 bL_isTold_268_ok hr g
theorem dL_isTold_275 : decode cL_isTold 275 = .ok (.invokestatic 87, 3) := by decide +kernel
theorem iL_isTold_275 (ha : z_args 2 st [] = some (As, rest)) (hc : z_chk rest As 2 = true) (hR : z_rm R R' 2 k n) (gc : z_J Z mL_low R' 0 0 Q' 0 As [] h) (kr : ∀ (v : Option Value) (h' : zH), Q' (.inl v) h' → z_J Z mL_isTold R (k + R'.cells) (n + R'.slots) Q 278 ls (v.toList ++ rest) h') (kx : ∀ (E : String) (h' : zH), Q' (.inr E) h' → z_JX Z mL_isTold R (k + R'.cells) (n + R'.slots) Q 275 ls E h') : z_J Z mL_isTold R k n Q 275 ls st h := z_callS (M' := mL_low) dL_isTold_275 rfl cs_L_87 gw168 ha hR (z_chk1 hc) (z_chk2 hc) (z_chk3 hc) gc kr kx
def bL_isTold_278 : zB := [(278, .iconst 1, 279, nI 1), (279, .iload_n 1, 280, nI 0), (280, .iconst 2, 281, nI 2), (281, .ishr, 282, nI 0), (282, .aload_n 2, 283, nI 0), (283, .aload_n 3, 284, nI 0), (284, .aload 4, 286, nI 0), (286, .aload 5, 288, nI 0), (288, .aload 6, 290, nI 0), (290, .aload 7, 292, nI 0), (292, .aload 8, 294, nI 0), (294, .aload 9, 296, nI 0), (296, .aload 10, 298, nI 0), (298, .aload 11, 300, nI 0)]
theorem bL_isTold_278_ok : z_ok cL_isTold 278 bL_isTold_278 300 = true := by decide +kernel
theorem iL_isTold_278 (hr : z_run 19 bL_isTold_278 ls st = some (ls', st')) (g : z_J Z mL_isTold R k n Q 300 ls' st' h) : z_J Z mL_isTold R k n Q 278 ls st h := z_jr bL_isTold_278 bL_isTold_278_ok hr g
theorem dL_isTold_300 : decode cL_isTold 300 = .ok (.invokestatic 146, 3) := by decide +kernel
theorem iL_isTold_300 (ha : z_args 14 st [] = some (As, rest)) (hc : z_chk rest As 18 = true) (hR : z_rm R R' 18 k n) (gc : z_J Z mL_isDay R' 0 0 Q' 0 As [] h) (kr : ∀ (v : Option Value) (h' : zH), Q' (.inl v) h' → z_J Z mL_isTold R (k + R'.cells) (n + R'.slots) Q 303 ls (v.toList ++ rest) h') (kx : ∀ (E : String) (h' : zH), Q' (.inr E) h' → z_JX Z mL_isTold R (k + R'.cells) (n + R'.slots) Q 300 ls E h') : z_J Z mL_isTold R k n Q 300 ls st h := z_callS (M' := mL_isDay) dL_isTold_300 rfl cs_L_146 gw607 ha hR (z_chk1 hc) (z_chk2 hc) (z_chk3 hc) gc kr kx
theorem dL_isTold_303 : decode cL_isTold 303 = .ok (.ifCond .eq 40, 3) := by decide +kernel
theorem iL_isTold_303 (kt : x = 0 → z_J Z mL_isTold R k n Q 343 ls st h) (kf : ¬ x = 0 → z_J Z mL_isTold R k n Q 306 ls st h) : z_J Z mL_isTold R k n Q 303 ls (.int x :: st) h := z_if_eq dL_isTold_303 (tgt := 343) (by decide) rfl kt kf
def bL_isTold_306 : zB := [(306, .aload_n 0, 307, nI 0), (307, .iload_n 1, 308, nI 0), (308, .iconst 3, 309, nI 3), (309, .ishr, 310, nI 0), (310, .bipush 61, 312, nI 61)]
theorem bL_isTold_306_ok : z_ok cL_isTold 306 bL_isTold_306 312 = true := by decide +kernel
theorem iL_isTold_306 (hr : z_run 19 bL_isTold_306 ls st = some (ls', st')) (g : z_J Z mL_isTold R k n Q 312 ls' st' h) : z_J Z mL_isTold R k n Q 306 ls st h := z_jr bL_isTold_306 bL_isTold_306_ok hr g
theorem dL_isTold_312 : decode cL_isTold 312 = .ok (.invokestatic 87, 3) := by decide +kernel
theorem iL_isTold_312 (ha : z_args 2 st [] = some (As, rest)) (hc : z_chk rest As 2 = true) (hR : z_rm R R' 2 k n) (gc : z_J Z mL_low R' 0 0 Q' 0 As [] h) (kr : ∀ (v : Option Value) (h' : zH), Q' (.inl v) h' → z_J Z mL_isTold R (k + R'.cells) (n + R'.slots) Q 315 ls (v.toList ++ rest) h') (kx : ∀ (E : String) (h' : zH), Q' (.inr E) h' → z_JX Z mL_isTold R (k + R'.cells) (n + R'.slots) Q 312 ls E h') : z_J Z mL_isTold R k n Q 312 ls st h := z_callS (M' := mL_low) dL_isTold_312 rfl cs_L_87 gw168 ha hR (z_chk1 hc) (z_chk2 hc) (z_chk3 hc) gc kr kx
def bL_isTold_315 : zB := [(315, .iconst 1, 316, nI 1), (316, .iload_n 1, 317, nI 0), (317, .iconst 4, 318, nI 4), (318, .ishr, 319, nI 0), (319, .aload_n 2, 320, nI 0), (320, .aload_n 3, 321, nI 0), (321, .aload 4, 323, nI 0), (323, .aload 5, 325, nI 0), (325, .aload 6, 327, nI 0), (327, .aload 7, 329, nI 0), (329, .aload 8, 331, nI 0), (331, .aload 9, 333, nI 0), (333, .aload 10, 335, nI 0), (335, .aload 11, 337, nI 0)]
theorem bL_isTold_315_ok : z_ok cL_isTold 315 bL_isTold_315 337 = true := by decide +kernel
theorem iL_isTold_315 (hr : z_run 19 bL_isTold_315 ls st = some (ls', st')) (g : z_J Z mL_isTold R k n Q 337 ls' st' h) : z_J Z mL_isTold R k n Q 315 ls st h := z_jr bL_isTold_315 bL_isTold_315_ok hr g
theorem dL_isTold_337 : decode cL_isTold 337 = .ok (.invokestatic 146, 3) := by decide +kernel
theorem iL_isTold_337 (ha : z_args 14 st [] = some (As, rest)) (hc : z_chk rest As 18 = true) (hR : z_rm R R' 18 k n) (gc : z_J Z mL_isDay R' 0 0 Q' 0 As [] h) (kr : ∀ (v : Option Value) (h' : zH), Q' (.inl v) h' → z_J Z mL_isTold R (k + R'.cells) (n + R'.slots) Q 340 ls (v.toList ++ rest) h') (kx : ∀ (E : String) (h' : zH), Q' (.inr E) h' → z_JX Z mL_isTold R (k + R'.cells) (n + R'.slots) Q 337 ls E h') : z_J Z mL_isTold R k n Q 337 ls st h := z_callS (M' := mL_isDay) dL_isTold_337 rfl cs_L_146 gw607 ha hR (z_chk1 hc) (z_chk2 hc) (z_chk3 hc) gc kr kx
theorem dL_isTold_340 : decode cL_isTold 340 = .ok (.ifCond .ne 5, 3) := by decide +kernel
theorem iL_isTold_340 (kt : ¬ x = 0 → z_J Z mL_isTold R k n Q 345 ls st h) (kf : x = 0 → z_J Z mL_isTold R k n Q 343 ls st h) : z_J Z mL_isTold R k n Q 340 ls (.int x :: st) h := z_if_ne dL_isTold_340 (tgt := 345) (by decide) rfl kt kf
def bL_isTold_343 : zB := [(343, .iconst 0, 344, nI 0)]
theorem bL_isTold_343_ok : z_ok cL_isTold 343 bL_isTold_343 344 = true := by decide +kernel
theorem iL_isTold_343 (hr : z_run 19 bL_isTold_343 ls st = some (ls', st')) (g : z_J Z mL_isTold R k n Q 344 ls' st' h) : z_J Z mL_isTold R k n Q 343 ls st h := z_jr bL_isTold_343 bL_isTold_343_ok hr g
theorem dL_isTold_344 : decode cL_isTold 344 = .ok (.ireturn, 1) := by decide +kernel
theorem iL_isTold_344 (hz : narrow .boolean (.int x) = .int x) (hk : k ≤ R.cells) (hs : n ≤ R.slots) (hq : Q (.inl (some (.int x))) h) : z_J Z mL_isTold R k n Q 344 ls [.int x] h := z_iret (ty := .boolean) dL_isTold_344 rfl hz hk hs hq
def bL_isTold_345 : zB := [(345, .aload_n 0, 346, nI 0)]
theorem bL_isTold_345_ok : z_ok cL_isTold 345 bL_isTold_345 346 = true := by decide +kernel
theorem iL_isTold_345 (hr : z_run 19 bL_isTold_345 ls st = some (ls', st')) (g : z_J Z mL_isTold R k n Q 346 ls' st' h) : z_J Z mL_isTold R k n Q 345 ls st h := z_jr bL_isTold_345 bL_isTold_345_ok hr g
theorem dL_isTold_346 : decode cL_isTold 346 = .ok (.invokevirtual 150, 3) := by decide +kernel
theorem iL_isTold_346 (ha : z_args 0 st [] = some (As, .ref b :: rest)) (hc : z_chk rest (.ref b :: As) 1 = true) (hh : h r = some (b, .inr (6, fs))) (hR : z_rm R R' 1 k n) (gc : z_J Z mX5_rights R' 0 0 Q' 0 (.ref b :: As) [] h) (kr : ∀ (v : Option Value) (h' : zH), Q' (.inl v) h' → z_J Z mL_isTold R (k + R'.cells) (n + R'.slots) Q 349 ls (v.toList ++ rest) h') (kx : ∀ (E : String) (h' : zH), Q' (.inr E) h' → z_JX Z mL_isTold R (k + R'.cells) (n + R'.slots) Q 346 ls E h') : z_J Z mL_isTold R k n Q 346 ls st h := z_callV (M' := mX5_rights) dL_isTold_346 rfl cs_L_150 rfl gw727 gw728 ha hh (ci := 6) rfl hR (z_chk1 hc) (z_chk2 hc) (z_chk3 hc) gc kr kx
def bL_isTold_349 : zB := [(349, .aload 11, 351, nI 0), (351, .iconst 0, 352, nI 0)]
theorem bL_isTold_349_ok : z_ok cL_isTold 349 bL_isTold_349 352 = true := by decide +kernel
theorem iL_isTold_349 (hr : z_run 19 bL_isTold_349 ls st = some (ls', st')) (g : z_J Z mL_isTold R k n Q 352 ls' st' h) : z_J Z mL_isTold R k n Q 349 ls st h := z_jr bL_isTold_349 bL_isTold_349_ok hr g
theorem dL_isTold_352 : decode cL_isTold 352 = .ok (.iaload, 1) := by decide +kernel
theorem iL_isTold_352 {f : Nat → Int32} (hh : h r = some (a, .inl (0, N, .inl f))) (hi : i = nI j) (hj : j < N) (hN : N < 2 ^ 31) (g : z_J Z mL_isTold R k n Q 353 ls (.int (f j) :: st) h) : z_J Z mL_isTold R k n Q 352 ls (.int i :: .ref a :: st) h := z_iald dL_isTold_352 rfl hh hi hj hN g
theorem dL_isTold_353 : decode cL_isTold 353 = .ok (.if_icmp .ne 131, 3) := by decide +kernel
theorem iL_isTold_353 (kt : ¬ x = y → z_J Z mL_isTold R k n Q 484 ls st h) (kf : x = y → z_J Z mL_isTold R k n Q 356 ls st h) : z_J Z mL_isTold R k n Q 353 ls (.int y :: .int x :: st) h := z_ic_ne dL_isTold_353 (tgt := 484) (by decide) rfl kt kf
def bL_isTold_356 : zB := [(356, .aload_n 0, 357, nI 0)]
theorem bL_isTold_356_ok : z_ok cL_isTold 356 bL_isTold_356 357 = true := by decide +kernel
theorem iL_isTold_356 (hr : z_run 19 bL_isTold_356 ls st = some (ls', st')) (g : z_J Z mL_isTold R k n Q 357 ls' st' h) : z_J Z mL_isTold R k n Q 356 ls st h := z_jr bL_isTold_356 bL_isTold_356_ok hr g
theorem dL_isTold_357 : decode cL_isTold 357 = .ok (.invokevirtual 100, 3) := by decide +kernel
theorem iL_isTold_357 (ha : z_args 0 st [] = some (As, .ref b :: rest)) (hc : z_chk rest (.ref b :: As) 1 = true) (hh : h r = some (b, .inr (6, fs))) (hR : z_rm R R' 1 k n) (gc : z_J Z mX5_machines R' 0 0 Q' 0 (.ref b :: As) [] h) (kr : ∀ (v : Option Value) (h' : zH), Q' (.inl v) h' → z_J Z mL_isTold R (k + R'.cells) (n + R'.slots) Q 360 ls (v.toList ++ rest) h') (kx : ∀ (E : String) (h' : zH), Q' (.inr E) h' → z_JX Z mL_isTold R (k + R'.cells) (n + R'.slots) Q 357 ls E h') : z_J Z mL_isTold R k n Q 357 ls st h := z_callV (M' := mX5_machines) dL_isTold_357 rfl cs_L_100 rfl gw467 gw468 ha hh (ci := 6) rfl hR (z_chk1 hc) (z_chk2 hc) (z_chk3 hc) gc kr kx
def bL_isTold_360 : zB := [(360, .aload 11, 362, nI 0), (362, .iconst 1, 363, nI 1)]
theorem bL_isTold_360_ok : z_ok cL_isTold 360 bL_isTold_360 363 = true := by decide +kernel
theorem iL_isTold_360 (hr : z_run 19 bL_isTold_360 ls st = some (ls', st')) (g : z_J Z mL_isTold R k n Q 363 ls' st' h) : z_J Z mL_isTold R k n Q 360 ls st h := z_jr bL_isTold_360 bL_isTold_360_ok hr g
theorem dL_isTold_363 : decode cL_isTold 363 = .ok (.iaload, 1) := by decide +kernel
theorem iL_isTold_363 {f : Nat → Int32} (hh : h r = some (a, .inl (0, N, .inl f))) (hi : i = nI j) (hj : j < N) (hN : N < 2 ^ 31) (g : z_J Z mL_isTold R k n Q 364 ls (.int (f j) :: st) h) : z_J Z mL_isTold R k n Q 363 ls (.int i :: .ref a :: st) h := z_iald dL_isTold_363 rfl hh hi hj hN g
theorem dL_isTold_364 : decode cL_isTold 364 = .ok (.if_icmp .ne 120, 3) := by decide +kernel
theorem iL_isTold_364 (kt : ¬ x = y → z_J Z mL_isTold R k n Q 484 ls st h) (kf : x = y → z_J Z mL_isTold R k n Q 367 ls st h) : z_J Z mL_isTold R k n Q 364 ls (.int y :: .int x :: st) h := z_ic_ne dL_isTold_364 (tgt := 484) (by decide) rfl kt kf
def bL_isTold_367 : zB := [(367, .aload_n 0, 368, nI 0), (368, .sipush 721, 371, nI 721), (371, .iconst (-1), 372, -1)]
theorem bL_isTold_367_ok : z_ok cL_isTold 367 bL_isTold_367 372 = true := by decide +kernel
theorem iL_isTold_367 (hr : z_run 19 bL_isTold_367 ls st = some (ls', st')) (g : z_J Z mL_isTold R k n Q 372 ls' st' h) : z_J Z mL_isTold R k n Q 367 ls st h := z_jr bL_isTold_367 bL_isTold_367_ok hr g
theorem dL_isTold_372 : decode cL_isTold 372 = .ok (.invokestatic 126, 3) := by decide +kernel
theorem iL_isTold_372 (ha : z_args 3 st [] = some (As, rest)) (hc : z_chk rest As 5 = true) (hR : z_rm R R' 5 k n) (gc : z_J Z mL_need R' 0 0 Q' 0 As [] h) (kr : ∀ (v : Option Value) (h' : zH), Q' (.inl v) h' → z_J Z mL_isTold R (k + R'.cells) (n + R'.slots) Q 375 ls (v.toList ++ rest) h') (kx : ∀ (E : String) (h' : zH), Q' (.inr E) h' → z_JX Z mL_isTold R (k + R'.cells) (n + R'.slots) Q 372 ls E h') : z_J Z mL_isTold R k n Q 372 ls st h := z_callS (M' := mL_need) dL_isTold_372 rfl cs_L_126 gw614 ha hR (z_chk1 hc) (z_chk2 hc) (z_chk3 hc) gc kr kx
def bL_isTold_375 : zB := [(375, .bipush (-72), 377, -72)]
theorem bL_isTold_375_ok : z_ok cL_isTold 375 bL_isTold_375 377 = true := by decide +kernel
theorem iL_isTold_375 (hr : z_run 19 bL_isTold_375 ls st = some (ls', st')) (g : z_J Z mL_isTold R k n Q 377 ls' st' h) : z_J Z mL_isTold R k n Q 375 ls st h := z_jr bL_isTold_375 bL_isTold_375_ok hr g
theorem dL_isTold_377 : decode cL_isTold 377 = .ok (.if_icmp .ne 107, 3) := by decide +kernel
theorem iL_isTold_377 (kt : ¬ x = y → z_J Z mL_isTold R k n Q 484 ls st h) (kf : x = y → z_J Z mL_isTold R k n Q 380 ls st h) : z_J Z mL_isTold R k n Q 377 ls (.int y :: .int x :: st) h := z_ic_ne dL_isTold_377 (tgt := 484) (by decide) rfl kt kf
def bL_isTold_380 : zB := [(380, .aload_n 0, 381, nI 0), (381, .iconst (-1), 382, -1), (382, .bipush 99, 384, nI 99)]
theorem bL_isTold_380_ok : z_ok cL_isTold 380 bL_isTold_380 384 = true := by decide +kernel
theorem iL_isTold_380 (hr : z_run 19 bL_isTold_380 ls st = some (ls', st')) (g : z_J Z mL_isTold R k n Q 384 ls' st' h) : z_J Z mL_isTold R k n Q 380 ls st h := z_jr bL_isTold_380 bL_isTold_380_ok hr g
theorem dL_isTold_384 : decode cL_isTold 384 = .ok (.invokestatic 128, 3) := by decide +kernel
theorem iL_isTold_384 (ha : z_args 3 st [] = some (As, rest)) (hc : z_chk rest As 5 = true) (hR : z_rm R R' 5 k n) (gc : z_J Z mL_gets R' 0 0 Q' 0 As [] h) (kr : ∀ (v : Option Value) (h' : zH), Q' (.inl v) h' → z_J Z mL_isTold R (k + R'.cells) (n + R'.slots) Q 387 ls (v.toList ++ rest) h') (kx : ∀ (E : String) (h' : zH), Q' (.inr E) h' → z_JX Z mL_isTold R (k + R'.cells) (n + R'.slots) Q 384 ls E h') : z_J Z mL_isTold R k n Q 384 ls st h := z_callS (M' := mL_gets) dL_isTold_384 rfl cs_L_128 gw626 ha hR (z_chk1 hc) (z_chk2 hc) (z_chk3 hc) gc kr kx
def bL_isTold_387 : zB := [(387, .bipush (-72), 389, -72)]
theorem bL_isTold_387_ok : z_ok cL_isTold 387 bL_isTold_387 389 = true := by decide +kernel
theorem iL_isTold_387 (hr : z_run 19 bL_isTold_387 ls st = some (ls', st')) (g : z_J Z mL_isTold R k n Q 389 ls' st' h) : z_J Z mL_isTold R k n Q 387 ls st h := z_jr bL_isTold_387 bL_isTold_387_ok hr g
theorem dL_isTold_389 : decode cL_isTold 389 = .ok (.if_icmp .ne 95, 3) := by decide +kernel
theorem iL_isTold_389 (kt : ¬ x = y → z_J Z mL_isTold R k n Q 484 ls st h) (kf : x = y → z_J Z mL_isTold R k n Q 392 ls st h) : z_J Z mL_isTold R k n Q 389 ls (.int y :: .int x :: st) h := z_ic_ne dL_isTold_389 (tgt := 484) (by decide) rfl kt kf
def bL_isTold_392 : zB := [(392, .aload_n 0, 393, nI 0), (393, .sipush 721, 396, nI 721)]
theorem bL_isTold_392_ok : z_ok cL_isTold 392 bL_isTold_392 396 = true := by decide +kernel
theorem iL_isTold_392 (hr : z_run 19 bL_isTold_392 ls st = some (ls', st')) (g : z_J Z mL_isTold R k n Q 396 ls' st' h) : z_J Z mL_isTold R k n Q 392 ls st h := z_jr bL_isTold_392 bL_isTold_392_ok hr g
theorem dL_isTold_396 : decode cL_isTold 396 = .ok (.invokestatic 136, 3) := by decide +kernel
theorem iL_isTold_396 (ha : z_args 2 st [] = some (As, rest)) (hc : z_chk rest As 4 = true) (hR : z_rm R R' 4 k n) (gc : z_J Z mL_lack R' 0 0 Q' 0 As [] h) (kr : ∀ (v : Option Value) (h' : zH), Q' (.inl v) h' → z_J Z mL_isTold R (k + R'.cells) (n + R'.slots) Q 399 ls (v.toList ++ rest) h') (kx : ∀ (E : String) (h' : zH), Q' (.inr E) h' → z_JX Z mL_isTold R (k + R'.cells) (n + R'.slots) Q 396 ls E h') : z_J Z mL_isTold R k n Q 396 ls st h := z_callS (M' := mL_lack) dL_isTold_396 rfl cs_L_136 gw706 ha hR (z_chk1 hc) (z_chk2 hc) (z_chk3 hc) gc kr kx
def bL_isTold_399 : zB := [(399, .bipush (-72), 401, -72)]
theorem bL_isTold_399_ok : z_ok cL_isTold 399 bL_isTold_399 401 = true := by decide +kernel
theorem iL_isTold_399 (hr : z_run 19 bL_isTold_399 ls st = some (ls', st')) (g : z_J Z mL_isTold R k n Q 401 ls' st' h) : z_J Z mL_isTold R k n Q 399 ls st h := z_jr bL_isTold_399 bL_isTold_399_ok hr g
theorem dL_isTold_401 : decode cL_isTold 401 = .ok (.if_icmp .ne 83, 3) := by decide +kernel
theorem iL_isTold_401 (kt : ¬ x = y → z_J Z mL_isTold R k n Q 484 ls st h) (kf : x = y → z_J Z mL_isTold R k n Q 404 ls st h) : z_J Z mL_isTold R k n Q 401 ls (.int y :: .int x :: st) h := z_ic_ne dL_isTold_401 (tgt := 484) (by decide) rfl kt kf
def bL_isTold_404 : zB := [(404, .aload_n 0, 405, nI 0), (405, .iconst (-1), 406, -1)]
theorem bL_isTold_404_ok : z_ok cL_isTold 404 bL_isTold_404 406 = true := by decide +kernel
theorem iL_isTold_404 (hr : z_run 19 bL_isTold_404 ls st = some (ls', st')) (g : z_J Z mL_isTold R k n Q 406 ls' st' h) : z_J Z mL_isTold R k n Q 404 ls st h := z_jr bL_isTold_404 bL_isTold_404_ok hr g
theorem dL_isTold_406 : decode cL_isTold 406 = .ok (.invokestatic 133, 3) := by decide +kernel
theorem iL_isTold_406 (ha : z_args 2 st [] = some (As, rest)) (hc : z_chk rest As 4 = true) (hR : z_rm R R' 4 k n) (gc : z_J Z mL_lackBySets R' 0 0 Q' 0 As [] h) (kr : ∀ (v : Option Value) (h' : zH), Q' (.inl v) h' → z_J Z mL_isTold R (k + R'.cells) (n + R'.slots) Q 409 ls (v.toList ++ rest) h') (kx : ∀ (E : String) (h' : zH), Q' (.inr E) h' → z_JX Z mL_isTold R (k + R'.cells) (n + R'.slots) Q 406 ls E h') : z_J Z mL_isTold R k n Q 406 ls st h := z_callS (M' := mL_lackBySets) dL_isTold_406 rfl cs_L_133 gw686 ha hR (z_chk1 hc) (z_chk2 hc) (z_chk3 hc) gc kr kx
def bL_isTold_409 : zB := [(409, .bipush (-72), 411, -72)]
theorem bL_isTold_409_ok : z_ok cL_isTold 409 bL_isTold_409 411 = true := by decide +kernel
theorem iL_isTold_409 (hr : z_run 19 bL_isTold_409 ls st = some (ls', st')) (g : z_J Z mL_isTold R k n Q 411 ls' st' h) : z_J Z mL_isTold R k n Q 409 ls st h := z_jr bL_isTold_409 bL_isTold_409_ok hr g
theorem dL_isTold_411 : decode cL_isTold 411 = .ok (.if_icmp .ne 73, 3) := by decide +kernel
theorem iL_isTold_411 (kt : ¬ x = y → z_J Z mL_isTold R k n Q 484 ls st h) (kf : x = y → z_J Z mL_isTold R k n Q 414 ls st h) : z_J Z mL_isTold R k n Q 411 ls (.int y :: .int x :: st) h := z_ic_ne dL_isTold_411 (tgt := 484) (by decide) rfl kt kf
def bL_isTold_414 : zB := [(414, .aload_n 0, 415, nI 0), (415, .sipush 721, 418, nI 721), (418, .bipush 9, 420, nI 9), (420, .iconst 1, 421, nI 1)]
theorem bL_isTold_414_ok : z_ok cL_isTold 414 bL_isTold_414 421 = true := by decide +kernel
theorem iL_isTold_414 (hr : z_run 19 bL_isTold_414 ls st = some (ls', st')) (g : z_J Z mL_isTold R k n Q 421 ls' st' h) : z_J Z mL_isTold R k n Q 414 ls st h := z_jr bL_isTold_414 bL_isTold_414_ok hr g
theorem dL_isTold_421 : decode cL_isTold 421 = .ok (.invokestatic 142, 3) := by decide +kernel
theorem iL_isTold_421 (ha : z_args 4 st [] = some (As, rest)) (hc : z_chk rest As 6 = true) (hR : z_rm R R' 6 k n) (gc : z_J Z mL_spare R' 0 0 Q' 0 As [] h) (kr : ∀ (v : Option Value) (h' : zH), Q' (.inl v) h' → z_J Z mL_isTold R (k + R'.cells) (n + R'.slots) Q 424 ls (v.toList ++ rest) h') (kx : ∀ (E : String) (h' : zH), Q' (.inr E) h' → z_JX Z mL_isTold R (k + R'.cells) (n + R'.slots) Q 421 ls E h') : z_J Z mL_isTold R k n Q 421 ls st h := z_callS (M' := mL_spare) dL_isTold_421 rfl cs_L_142 gw720 ha hR (z_chk1 hc) (z_chk2 hc) (z_chk3 hc) gc kr kx
def bL_isTold_424 : zB := [(424, .bipush (-72), 426, -72)]
theorem bL_isTold_424_ok : z_ok cL_isTold 424 bL_isTold_424 426 = true := by decide +kernel
theorem iL_isTold_424 (hr : z_run 19 bL_isTold_424 ls st = some (ls', st')) (g : z_J Z mL_isTold R k n Q 426 ls' st' h) : z_J Z mL_isTold R k n Q 424 ls st h := z_jr bL_isTold_424 bL_isTold_424_ok hr g
theorem dL_isTold_426 : decode cL_isTold 426 = .ok (.if_icmp .ne 58, 3) := by decide +kernel
theorem iL_isTold_426 (kt : ¬ x = y → z_J Z mL_isTold R k n Q 484 ls st h) (kf : x = y → z_J Z mL_isTold R k n Q 429 ls st h) : z_J Z mL_isTold R k n Q 426 ls (.int y :: .int x :: st) h := z_ic_ne dL_isTold_426 (tgt := 484) (by decide) rfl kt kf
def bL_isTold_429 : zB := [(429, .aload_n 0, 430, nI 0), (430, .iconst 0, 431, nI 0), (431, .bipush 9, 433, nI 9), (433, .bipush 10, 435, nI 10)]
theorem bL_isTold_429_ok : z_ok cL_isTold 429 bL_isTold_429 435 = true := by decide +kernel
theorem iL_isTold_429 (hr : z_run 19 bL_isTold_429 ls st = some (ls', st')) (g : z_J Z mL_isTold R k n Q 435 ls' st' h) : z_J Z mL_isTold R k n Q 429 ls st h := z_jr bL_isTold_429 bL_isTold_429_ok hr g
theorem dL_isTold_435 : decode cL_isTold 435 = .ok (.invokestatic 142, 3) := by decide +kernel
theorem iL_isTold_435 (ha : z_args 4 st [] = some (As, rest)) (hc : z_chk rest As 6 = true) (hR : z_rm R R' 6 k n) (gc : z_J Z mL_spare R' 0 0 Q' 0 As [] h) (kr : ∀ (v : Option Value) (h' : zH), Q' (.inl v) h' → z_J Z mL_isTold R (k + R'.cells) (n + R'.slots) Q 438 ls (v.toList ++ rest) h') (kx : ∀ (E : String) (h' : zH), Q' (.inr E) h' → z_JX Z mL_isTold R (k + R'.cells) (n + R'.slots) Q 435 ls E h') : z_J Z mL_isTold R k n Q 435 ls st h := z_callS (M' := mL_spare) dL_isTold_435 rfl cs_L_142 gw720 ha hR (z_chk1 hc) (z_chk2 hc) (z_chk3 hc) gc kr kx
def bL_isTold_438 : zB := [(438, .bipush (-72), 440, -72)]
theorem bL_isTold_438_ok : z_ok cL_isTold 438 bL_isTold_438 440 = true := by decide +kernel
theorem iL_isTold_438 (hr : z_run 19 bL_isTold_438 ls st = some (ls', st')) (g : z_J Z mL_isTold R k n Q 440 ls' st' h) : z_J Z mL_isTold R k n Q 438 ls st h := z_jr bL_isTold_438 bL_isTold_438_ok hr g
theorem dL_isTold_440 : decode cL_isTold 440 = .ok (.if_icmp .ne 44, 3) := by decide +kernel
theorem iL_isTold_440 (kt : ¬ x = y → z_J Z mL_isTold R k n Q 484 ls st h) (kf : x = y → z_J Z mL_isTold R k n Q 443 ls st h) : z_J Z mL_isTold R k n Q 440 ls (.int y :: .int x :: st) h := z_ic_ne dL_isTold_440 (tgt := 484) (by decide) rfl kt kf
def bL_isTold_443 : zB := [(443, .aload_n 0, 444, nI 0), (444, .iconst 0, 445, nI 0), (445, .iconst 0, 446, nI 0), (446, .iconst 0, 447, nI 0)]
theorem bL_isTold_443_ok : z_ok cL_isTold 443 bL_isTold_443 447 = true := by decide +kernel
theorem iL_isTold_443 (hr : z_run 19 bL_isTold_443 ls st = some (ls', st')) (g : z_J Z mL_isTold R k n Q 447 ls' st' h) : z_J Z mL_isTold R k n Q 443 ls st h := z_jr bL_isTold_443 bL_isTold_443_ok hr g
theorem dL_isTold_447 : decode cL_isTold 447 = .ok (.invokestatic 142, 3) := by decide +kernel
theorem iL_isTold_447 (ha : z_args 4 st [] = some (As, rest)) (hc : z_chk rest As 6 = true) (hR : z_rm R R' 6 k n) (gc : z_J Z mL_spare R' 0 0 Q' 0 As [] h) (kr : ∀ (v : Option Value) (h' : zH), Q' (.inl v) h' → z_J Z mL_isTold R (k + R'.cells) (n + R'.slots) Q 450 ls (v.toList ++ rest) h') (kx : ∀ (E : String) (h' : zH), Q' (.inr E) h' → z_JX Z mL_isTold R (k + R'.cells) (n + R'.slots) Q 447 ls E h') : z_J Z mL_isTold R k n Q 447 ls st h := z_callS (M' := mL_spare) dL_isTold_447 rfl cs_L_142 gw720 ha hR (z_chk1 hc) (z_chk2 hc) (z_chk3 hc) gc kr kx
def bL_isTold_450 : zB := [(450, .bipush (-72), 452, -72)]
theorem bL_isTold_450_ok : z_ok cL_isTold 450 bL_isTold_450 452 = true := by decide +kernel
theorem iL_isTold_450 (hr : z_run 19 bL_isTold_450 ls st = some (ls', st')) (g : z_J Z mL_isTold R k n Q 452 ls' st' h) : z_J Z mL_isTold R k n Q 450 ls st h := z_jr bL_isTold_450 bL_isTold_450_ok hr g
theorem dL_isTold_452 : decode cL_isTold 452 = .ok (.if_icmp .ne 32, 3) := by decide +kernel
theorem iL_isTold_452 (kt : ¬ x = y → z_J Z mL_isTold R k n Q 484 ls st h) (kf : x = y → z_J Z mL_isTold R k n Q 455 ls st h) : z_J Z mL_isTold R k n Q 452 ls (.int y :: .int x :: st) h := z_ic_ne dL_isTold_452 (tgt := 484) (by decide) rfl kt kf
def bL_isTold_455 : zB := [(455, .aload_n 0, 456, nI 0), (456, .iconst 0, 457, nI 0), (457, .iconst 5, 458, nI 5), (458, .iconst 1, 459, nI 1)]
theorem bL_isTold_455_ok : z_ok cL_isTold 455 bL_isTold_455 459 = true := by decide +kernel
theorem iL_isTold_455 (hr : z_run 19 bL_isTold_455 ls st = some (ls', st')) (g : z_J Z mL_isTold R k n Q 459 ls' st' h) : z_J Z mL_isTold R k n Q 455 ls st h := z_jr bL_isTold_455 bL_isTold_455_ok hr g
theorem dL_isTold_459 : decode cL_isTold 459 = .ok (.invokestatic 142, 3) := by decide +kernel
theorem iL_isTold_459 (ha : z_args 4 st [] = some (As, rest)) (hc : z_chk rest As 6 = true) (hR : z_rm R R' 6 k n) (gc : z_J Z mL_spare R' 0 0 Q' 0 As [] h) (kr : ∀ (v : Option Value) (h' : zH), Q' (.inl v) h' → z_J Z mL_isTold R (k + R'.cells) (n + R'.slots) Q 462 ls (v.toList ++ rest) h') (kx : ∀ (E : String) (h' : zH), Q' (.inr E) h' → z_JX Z mL_isTold R (k + R'.cells) (n + R'.slots) Q 459 ls E h') : z_J Z mL_isTold R k n Q 459 ls st h := z_callS (M' := mL_spare) dL_isTold_459 rfl cs_L_142 gw720 ha hR (z_chk1 hc) (z_chk2 hc) (z_chk3 hc) gc kr kx
def bL_isTold_462 : zB := [(462, .bipush (-71), 464, -71)]
theorem bL_isTold_462_ok : z_ok cL_isTold 462 bL_isTold_462 464 = true := by decide +kernel
theorem iL_isTold_462 (hr : z_run 19 bL_isTold_462 ls st = some (ls', st')) (g : z_J Z mL_isTold R k n Q 464 ls' st' h) : z_J Z mL_isTold R k n Q 462 ls st h := z_jr bL_isTold_462 bL_isTold_462_ok hr g
theorem dL_isTold_464 : decode cL_isTold 464 = .ok (.if_icmp .ne 20, 3) := by decide +kernel
theorem iL_isTold_464 (kt : ¬ x = y → z_J Z mL_isTold R k n Q 484 ls st h) (kf : x = y → z_J Z mL_isTold R k n Q 467 ls st h) : z_J Z mL_isTold R k n Q 464 ls (.int y :: .int x :: st) h := z_ic_ne dL_isTold_464 (tgt := 484) (by decide) rfl kt kf
def bL_isTold_467 : zB := [(467, .aload_n 0, 468, nI 0), (468, .iconst 0, 469, nI 0), (469, .iconst (-1), 470, -1), (470, .bipush 9, 472, nI 9)]
theorem bL_isTold_467_ok : z_ok cL_isTold 467 bL_isTold_467 472 = true := by decide +kernel
theorem iL_isTold_467 (hr : z_run 19 bL_isTold_467 ls st = some (ls', st')) (g : z_J Z mL_isTold R k n Q 472 ls' st' h) : z_J Z mL_isTold R k n Q 467 ls st h := z_jr bL_isTold_467 bL_isTold_467_ok hr g
theorem dL_isTold_472 : decode cL_isTold 472 = .ok (.invokestatic 142, 3) := by decide +kernel
theorem iL_isTold_472 (ha : z_args 4 st [] = some (As, rest)) (hc : z_chk rest As 6 = true) (hR : z_rm R R' 6 k n) (gc : z_J Z mL_spare R' 0 0 Q' 0 As [] h) (kr : ∀ (v : Option Value) (h' : zH), Q' (.inl v) h' → z_J Z mL_isTold R (k + R'.cells) (n + R'.slots) Q 475 ls (v.toList ++ rest) h') (kx : ∀ (E : String) (h' : zH), Q' (.inr E) h' → z_JX Z mL_isTold R (k + R'.cells) (n + R'.slots) Q 472 ls E h') : z_J Z mL_isTold R k n Q 472 ls st h := z_callS (M' := mL_spare) dL_isTold_472 rfl cs_L_142 gw720 ha hR (z_chk1 hc) (z_chk2 hc) (z_chk3 hc) gc kr kx
def bL_isTold_475 : zB := [(475, .bipush (-71), 477, -71)]
theorem bL_isTold_475_ok : z_ok cL_isTold 475 bL_isTold_475 477 = true := by decide +kernel
theorem iL_isTold_475 (hr : z_run 19 bL_isTold_475 ls st = some (ls', st')) (g : z_J Z mL_isTold R k n Q 477 ls' st' h) : z_J Z mL_isTold R k n Q 475 ls st h := z_jr bL_isTold_475 bL_isTold_475_ok hr g
theorem dL_isTold_477 : decode cL_isTold 477 = .ok (.if_icmp .ne 7, 3) := by decide +kernel
theorem iL_isTold_477 (kt : ¬ x = y → z_J Z mL_isTold R k n Q 484 ls st h) (kf : x = y → z_J Z mL_isTold R k n Q 480 ls st h) : z_J Z mL_isTold R k n Q 477 ls (.int y :: .int x :: st) h := z_ic_ne dL_isTold_477 (tgt := 484) (by decide) rfl kt kf
def bL_isTold_480 : zB := [(480, .iconst 1, 481, nI 1), (481, .goto 4, 485, nI 0)]
theorem bL_isTold_480_ok : z_ok cL_isTold 480 bL_isTold_480 485 = true := by decide +kernel
theorem iL_isTold_480 (hr : z_run 19 bL_isTold_480 ls st = some (ls', st')) (g : z_J Z mL_isTold R k n Q 485 ls' st' h) : z_J Z mL_isTold R k n Q 480 ls st h := z_jr bL_isTold_480 bL_isTold_480_ok hr g
def bL_isTold_484 : zB := [(484, .iconst 0, 485, nI 0)]
theorem bL_isTold_484_ok : z_ok cL_isTold 484 bL_isTold_484 485 = true := by decide +kernel
theorem iL_isTold_484 (hr : z_run 19 bL_isTold_484 ls st = some (ls', st')) (g : z_J Z mL_isTold R k n Q 485 ls' st' h) : z_J Z mL_isTold R k n Q 484 ls st h := z_jr bL_isTold_484 bL_isTold_484_ok hr g
theorem dL_isTold_485 : decode cL_isTold 485 = .ok (.ireturn, 1) := by decide +kernel
theorem iL_isTold_485 (hz : narrow .boolean (.int x) = .int x) (hk : k ≤ R.cells) (hs : n ≤ R.slots) (hq : Q (.inl (some (.int x))) h) : z_J Z mL_isTold R k n Q 485 ls [.int x] h := z_iret (ty := .boolean) dL_isTold_485 rfl hz hk hs hq
/-! law -/
theorem dlaw_0 : decode code 0 = .ok (.new 9, 3) := by decide +kernel
theorem ilaw_0 (r : Nat) (hR : k + 1 ≤ R.cells ∧ n + 5 ≤ R.slots) (g : ∀ q, z_J Z mlaw R (k + 1) (n + 5) Q 3 ls (.ref q :: st) (z_u h r (q, .inr (6, [.null, .null, .null, .null, .null])))) : z_J Z mlaw R k n Q 0 ls st h := z_new r (ty := tyX5) dlaw_0 rfl (ci := 6) rfl inG_X5 tyX5_ok gw39 gw40 gw18 (by decide +kernel) hR g
def blaw_3 : zB := [(3, .dup, 4, nI 0)]
theorem blaw_3_ok : z_ok code 3 blaw_3 4 = true := by decide +kernel
theorem ilaw_3 (hr : z_run 17 blaw_3 ls st = some (ls', st')) (g : z_J Z mlaw R k n Q 4 ls' st' h) : z_J Z mlaw R k n Q 3 ls st h := z_jr blaw_3 blaw_3_ok hr g
theorem dlaw_4 : decode code 4 = .ok (.invokespecial 153, 3) := by decide +kernel
theorem ilaw_4 (ha : z_args 0 st [] = some (As, .ref b :: rest)) (hc : z_chk rest (.ref b :: As) 1 = true) (hR : z_rm R R' 1 k n) (hq : ∀ E h', ¬ Q' (.inr E) h') (gc : z_J Z mX5_init R' 0 0 Q' 0 (.ref b :: As) [] h) (kr : ∀ (v : Option Value) (h' : zH), Q' (.inl v) h' → z_J Z mlaw R (k + R'.cells) (n + R'.slots) Q 7 ls (v.toList ++ rest) h') : z_J Z mlaw R k n Q 4 ls st h := z_callI (M' := mX5_init) dlaw_4 rfl cs_L_153 rfl rfl gw42 rfl ha hR (z_chk1 hc) (z_chk2 hc) (z_chk3 hc) hq gc kr
def blaw_7 : zB := [(7, .astore_n 1, 8, nI 0), (8, .bipush 10, 10, nI 10)]
theorem blaw_7_ok : z_ok code 7 blaw_7 10 = true := by decide +kernel
theorem ilaw_7 (hr : z_run 17 blaw_7 ls st = some (ls', st')) (g : z_J Z mlaw R k n Q 10 ls' st' h) : z_J Z mlaw R k n Q 7 ls st h := z_jr blaw_7 blaw_7_ok hr g
theorem dlaw_10 : decode code 10 = .ok (.newarray .int, 2) := by decide +kernel
theorem ilaw_10 (r : Nat) (hi : i = nI N) (hN : N < 1000) (hR : k + 1 ≤ R.cells ∧ n + N ≤ R.slots) (g : ∀ q, z_J Z mlaw R (k + 1) (n + N) Q 12 ls (.ref q :: st) (z_u h r (q, .inl (0, N, .inl (fun _ => 0))))) : z_J Z mlaw R k n Q 10 ls (.int i :: st) h := z_newa r (ty := .int) (t := 0) (a0 := (N, .inl (fun _ => 0))) dlaw_10 rfl rfl (fun _ => rfl) (fun _ q => by cases q) gw107 (fun _ => rfl) hi hN hR (by show N * 4 ≤ 536870912; omega) g
def blaw_12 : zB := [(12, .astore_n 2, 13, nI 0), (13, .bipush 10, 15, nI 10)]
theorem blaw_12_ok : z_ok code 12 blaw_12 15 = true := by decide +kernel
theorem ilaw_12 (hr : z_run 17 blaw_12 ls st = some (ls', st')) (g : z_J Z mlaw R k n Q 15 ls' st' h) : z_J Z mlaw R k n Q 12 ls st h := z_jr blaw_12 blaw_12_ok hr g
theorem dlaw_15 : decode code 15 = .ok (.newarray .int, 2) := by decide +kernel
theorem ilaw_15 (r : Nat) (hi : i = nI N) (hN : N < 1000) (hR : k + 1 ≤ R.cells ∧ n + N ≤ R.slots) (g : ∀ q, z_J Z mlaw R (k + 1) (n + N) Q 17 ls (.ref q :: st) (z_u h r (q, .inl (0, N, .inl (fun _ => 0))))) : z_J Z mlaw R k n Q 15 ls (.int i :: st) h := z_newa r (ty := .int) (t := 0) (a0 := (N, .inl (fun _ => 0))) dlaw_15 rfl rfl (fun _ => rfl) (fun _ q => by cases q) gw107 (fun _ => rfl) hi hN hR (by show N * 4 ≤ 536870912; omega) g
def blaw_17 : zB := [(17, .astore_n 3, 18, nI 0), (18, .iconst 4, 19, nI 4)]
theorem blaw_17_ok : z_ok code 17 blaw_17 19 = true := by decide +kernel
theorem ilaw_17 (hr : z_run 17 blaw_17 ls st = some (ls', st')) (g : z_J Z mlaw R k n Q 19 ls' st' h) : z_J Z mlaw R k n Q 17 ls st h := z_jr blaw_17 blaw_17_ok hr g
theorem dlaw_19 : decode code 19 = .ok (.newarray .int, 2) := by decide +kernel
theorem ilaw_19 (r : Nat) (hi : i = nI N) (hN : N < 1000) (hR : k + 1 ≤ R.cells ∧ n + N ≤ R.slots) (g : ∀ q, z_J Z mlaw R (k + 1) (n + N) Q 21 ls (.ref q :: st) (z_u h r (q, .inl (0, N, .inl (fun _ => 0))))) : z_J Z mlaw R k n Q 19 ls (.int i :: st) h := z_newa r (ty := .int) (t := 0) (a0 := (N, .inl (fun _ => 0))) dlaw_19 rfl rfl (fun _ => rfl) (fun _ q => by cases q) gw107 (fun _ => rfl) hi hN hR (by show N * 4 ≤ 536870912; omega) g
def blaw_21 : zB := [(21, .astore 4, 23, nI 0), (23, .iconst 4, 24, nI 4)]
theorem blaw_21_ok : z_ok code 21 blaw_21 24 = true := by decide +kernel
theorem ilaw_21 (hr : z_run 17 blaw_21 ls st = some (ls', st')) (g : z_J Z mlaw R k n Q 24 ls' st' h) : z_J Z mlaw R k n Q 21 ls st h := z_jr blaw_21 blaw_21_ok hr g
theorem dlaw_24 : decode code 24 = .ok (.newarray .int, 2) := by decide +kernel
theorem ilaw_24 (r : Nat) (hi : i = nI N) (hN : N < 1000) (hR : k + 1 ≤ R.cells ∧ n + N ≤ R.slots) (g : ∀ q, z_J Z mlaw R (k + 1) (n + N) Q 26 ls (.ref q :: st) (z_u h r (q, .inl (0, N, .inl (fun _ => 0))))) : z_J Z mlaw R k n Q 24 ls (.int i :: st) h := z_newa r (ty := .int) (t := 0) (a0 := (N, .inl (fun _ => 0))) dlaw_24 rfl rfl (fun _ => rfl) (fun _ q => by cases q) gw107 (fun _ => rfl) hi hN hR (by show N * 4 ≤ 536870912; omega) g
def blaw_26 : zB := [(26, .astore 5, 28, nI 0), (28, .iconst 5, 29, nI 5)]
theorem blaw_26_ok : z_ok code 26 blaw_26 29 = true := by decide +kernel
theorem ilaw_26 (hr : z_run 17 blaw_26 ls st = some (ls', st')) (g : z_J Z mlaw R k n Q 29 ls' st' h) : z_J Z mlaw R k n Q 26 ls st h := z_jr blaw_26 blaw_26_ok hr g
theorem dlaw_29 : decode code 29 = .ok (.newarray .int, 2) := by decide +kernel
theorem ilaw_29 (r : Nat) (hi : i = nI N) (hN : N < 1000) (hR : k + 1 ≤ R.cells ∧ n + N ≤ R.slots) (g : ∀ q, z_J Z mlaw R (k + 1) (n + N) Q 31 ls (.ref q :: st) (z_u h r (q, .inl (0, N, .inl (fun _ => 0))))) : z_J Z mlaw R k n Q 29 ls (.int i :: st) h := z_newa r (ty := .int) (t := 0) (a0 := (N, .inl (fun _ => 0))) dlaw_29 rfl rfl (fun _ => rfl) (fun _ q => by cases q) gw107 (fun _ => rfl) hi hN hR (by show N * 4 ≤ 536870912; omega) g
def blaw_31 : zB := [(31, .astore 6, 33, nI 0), (33, .bipush 60, 35, nI 60)]
theorem blaw_31_ok : z_ok code 31 blaw_31 35 = true := by decide +kernel
theorem ilaw_31 (hr : z_run 17 blaw_31 ls st = some (ls', st')) (g : z_J Z mlaw R k n Q 35 ls' st' h) : z_J Z mlaw R k n Q 31 ls st h := z_jr blaw_31 blaw_31_ok hr g
theorem dlaw_35 : decode code 35 = .ok (.newarray .int, 2) := by decide +kernel
theorem ilaw_35 (r : Nat) (hi : i = nI N) (hN : N < 1000) (hR : k + 1 ≤ R.cells ∧ n + N ≤ R.slots) (g : ∀ q, z_J Z mlaw R (k + 1) (n + N) Q 37 ls (.ref q :: st) (z_u h r (q, .inl (0, N, .inl (fun _ => 0))))) : z_J Z mlaw R k n Q 35 ls (.int i :: st) h := z_newa r (ty := .int) (t := 0) (a0 := (N, .inl (fun _ => 0))) dlaw_35 rfl rfl (fun _ => rfl) (fun _ q => by cases q) gw107 (fun _ => rfl) hi hN hR (by show N * 4 ≤ 536870912; omega) g
def blaw_37 : zB := [(37, .astore 7, 39, nI 0), (39, .bipush 20, 41, nI 20)]
theorem blaw_37_ok : z_ok code 37 blaw_37 41 = true := by decide +kernel
theorem ilaw_37 (hr : z_run 17 blaw_37 ls st = some (ls', st')) (g : z_J Z mlaw R k n Q 41 ls' st' h) : z_J Z mlaw R k n Q 37 ls st h := z_jr blaw_37 blaw_37_ok hr g
theorem dlaw_41 : decode code 41 = .ok (.newarray .int, 2) := by decide +kernel
theorem ilaw_41 (r : Nat) (hi : i = nI N) (hN : N < 1000) (hR : k + 1 ≤ R.cells ∧ n + N ≤ R.slots) (g : ∀ q, z_J Z mlaw R (k + 1) (n + N) Q 43 ls (.ref q :: st) (z_u h r (q, .inl (0, N, .inl (fun _ => 0))))) : z_J Z mlaw R k n Q 41 ls (.int i :: st) h := z_newa r (ty := .int) (t := 0) (a0 := (N, .inl (fun _ => 0))) dlaw_41 rfl rfl (fun _ => rfl) (fun _ q => by cases q) gw107 (fun _ => rfl) hi hN hR (by show N * 4 ≤ 536870912; omega) g
def blaw_43 : zB := [(43, .astore 8, 45, nI 0), (45, .bipush 20, 47, nI 20)]
theorem blaw_43_ok : z_ok code 43 blaw_43 47 = true := by decide +kernel
theorem ilaw_43 (hr : z_run 17 blaw_43 ls st = some (ls', st')) (g : z_J Z mlaw R k n Q 47 ls' st' h) : z_J Z mlaw R k n Q 43 ls st h := z_jr blaw_43 blaw_43_ok hr g
theorem dlaw_47 : decode code 47 = .ok (.newarray .int, 2) := by decide +kernel
theorem ilaw_47 (r : Nat) (hi : i = nI N) (hN : N < 1000) (hR : k + 1 ≤ R.cells ∧ n + N ≤ R.slots) (g : ∀ q, z_J Z mlaw R (k + 1) (n + N) Q 49 ls (.ref q :: st) (z_u h r (q, .inl (0, N, .inl (fun _ => 0))))) : z_J Z mlaw R k n Q 47 ls (.int i :: st) h := z_newa r (ty := .int) (t := 0) (a0 := (N, .inl (fun _ => 0))) dlaw_47 rfl rfl (fun _ => rfl) (fun _ q => by cases q) gw107 (fun _ => rfl) hi hN hR (by show N * 4 ≤ 536870912; omega) g
def blaw_49 : zB := [(49, .astore 9, 51, nI 0), (51, .bipush 20, 53, nI 20)]
theorem blaw_49_ok : z_ok code 49 blaw_49 53 = true := by decide +kernel
theorem ilaw_49 (hr : z_run 17 blaw_49 ls st = some (ls', st')) (g : z_J Z mlaw R k n Q 53 ls' st' h) : z_J Z mlaw R k n Q 49 ls st h := z_jr blaw_49 blaw_49_ok hr g
theorem dlaw_53 : decode code 53 = .ok (.newarray .int, 2) := by decide +kernel
theorem ilaw_53 (r : Nat) (hi : i = nI N) (hN : N < 1000) (hR : k + 1 ≤ R.cells ∧ n + N ≤ R.slots) (g : ∀ q, z_J Z mlaw R (k + 1) (n + N) Q 55 ls (.ref q :: st) (z_u h r (q, .inl (0, N, .inl (fun _ => 0))))) : z_J Z mlaw R k n Q 53 ls (.int i :: st) h := z_newa r (ty := .int) (t := 0) (a0 := (N, .inl (fun _ => 0))) dlaw_53 rfl rfl (fun _ => rfl) (fun _ q => by cases q) gw107 (fun _ => rfl) hi hN hR (by show N * 4 ≤ 536870912; omega) g
def blaw_55 : zB := [(55, .astore 10, 57, nI 0), (57, .iconst 5, 58, nI 5)]
theorem blaw_55_ok : z_ok code 55 blaw_55 58 = true := by decide +kernel
theorem ilaw_55 (hr : z_run 17 blaw_55 ls st = some (ls', st')) (g : z_J Z mlaw R k n Q 58 ls' st' h) : z_J Z mlaw R k n Q 55 ls st h := z_jr blaw_55 blaw_55_ok hr g
theorem dlaw_58 : decode code 58 = .ok (.newarray .int, 2) := by decide +kernel
theorem ilaw_58 (r : Nat) (hi : i = nI N) (hN : N < 1000) (hR : k + 1 ≤ R.cells ∧ n + N ≤ R.slots) (g : ∀ q, z_J Z mlaw R (k + 1) (n + N) Q 60 ls (.ref q :: st) (z_u h r (q, .inl (0, N, .inl (fun _ => 0))))) : z_J Z mlaw R k n Q 58 ls (.int i :: st) h := z_newa r (ty := .int) (t := 0) (a0 := (N, .inl (fun _ => 0))) dlaw_58 rfl rfl (fun _ => rfl) (fun _ q => by cases q) gw107 (fun _ => rfl) hi hN hR (by show N * 4 ≤ 536870912; omega) g
def blaw_60 : zB := [(60, .astore 11, 62, nI 0), (62, .iconst 0, 63, nI 0), (63, .istore 12, 65, nI 0)]
theorem blaw_60_ok : z_ok code 60 blaw_60 65 = true := by decide +kernel
theorem ilaw_60 (hr : z_run 17 blaw_60 ls st = some (ls', st')) (g : z_J Z mlaw R k n Q 65 ls' st' h) : z_J Z mlaw R k n Q 60 ls st h := z_jr blaw_60 blaw_60_ok hr g
def blaw_65 : zB := [(65, .iload 12, 67, nI 0), (67, .iconst 5, 68, nI 5)]
theorem blaw_65_ok : z_ok code 65 blaw_65 68 = true := by decide +kernel
theorem ilaw_65 (hr : z_run 17 blaw_65 ls st = some (ls', st')) (g : z_J Z mlaw R k n Q 68 ls' st' h) : z_J Z mlaw R k n Q 65 ls st h := z_jr blaw_65 blaw_65_ok hr g
theorem dlaw_68 : decode code 68 = .ok (.if_icmp .ge 15, 3) := by decide +kernel
theorem ilaw_68 (kt : y ≤ x → z_J Z mlaw R k n Q 83 ls st h) (kf : ¬ y ≤ x → z_J Z mlaw R k n Q 71 ls st h) : z_J Z mlaw R k n Q 68 ls (.int y :: .int x :: st) h := z_ic_ge dlaw_68 (tgt := 83) (by decide) rfl kt kf
def blaw_71 : zB := [(71, .aload 6, 73, nI 0), (73, .iload 12, 75, nI 0), (75, .iconst 1, 76, nI 1)]
theorem blaw_71_ok : z_ok code 71 blaw_71 76 = true := by decide +kernel
theorem ilaw_71 (hr : z_run 17 blaw_71 ls st = some (ls', st')) (g : z_J Z mlaw R k n Q 76 ls' st' h) : z_J Z mlaw R k n Q 71 ls st h := z_jr blaw_71 blaw_71_ok hr g
theorem dlaw_76 : decode code 76 = .ok (.iastore, 1) := by decide +kernel
theorem ilaw_76 {f : Nat → Int32} (hh : h r = some (a, .inl (0, N, .inl f))) (hi : i = nI j) (hj : j < N) (hN : N < 2 ^ 31) (g : z_J Z mlaw R k n Q 77 ls st (z_u h r (a, .inl (0, N, .inl (upd f j x))))) : z_J Z mlaw R k n Q 76 ls (.int x :: .int i :: .ref a :: st) h := z_iast dlaw_76 rfl hh hi hj hN g
def blaw_77 : zB := [(77, .iinc 12 1, 80, nI 1), (80, .goto (-15), 65, nI 0)]
theorem blaw_77_ok : z_ok code 77 blaw_77 65 = true := by decide +kernel
theorem ilaw_77 (hr : z_run 17 blaw_77 ls st = some (ls', st')) (g : z_J Z mlaw R k n Q 65 ls' st' h) : z_J Z mlaw R k n Q 77 ls st h := z_jr blaw_77 blaw_77_ok hr g
def blaw_83 : zB := [(83, .aload_n 1, 84, nI 0), (84, .iconst 0, 85, nI 0), (85, .aload_n 2, 86, nI 0), (86, .aload_n 3, 87, nI 0), (87, .aload 4, 89, nI 0), (89, .aload 5, 91, nI 0), (91, .aload 6, 93, nI 0), (93, .aload 7, 95, nI 0), (95, .aload 8, 97, nI 0), (97, .aload 9, 99, nI 0), (99, .aload 10, 101, nI 0), (101, .aload 11, 103, nI 0), (103, .iconst 1, 104, nI 1)]
theorem blaw_83_ok : z_ok code 83 blaw_83 104 = true := by decide +kernel
theorem ilaw_83 (hr : z_run 17 blaw_83 ls st = some (ls', st')) (g : z_J Z mlaw R k n Q 104 ls' st' h) : z_J Z mlaw R k n Q 83 ls st h := z_jr blaw_83 blaw_83_ok hr g
theorem dlaw_104 : decode code 104 = .ok (.invokestatic 154, 3) := by decide +kernel
theorem ilaw_104 (ha : z_args 13 st [] = some (As, rest)) (hc : z_chk rest As 19 = true) (hR : z_rm R R' 19 k n) (gc : z_J Z mL_isTold R' 0 0 Q' 0 As [] h) (kr : ∀ (v : Option Value) (h' : zH), Q' (.inl v) h' → z_J Z mlaw R (k + R'.cells) (n + R'.slots) Q 107 ls (v.toList ++ rest) h') (kx : ∀ (E : String) (h' : zH), Q' (.inr E) h' → z_JX Z mlaw R (k + R'.cells) (n + R'.slots) Q 104 ls E h') : z_J Z mlaw R k n Q 104 ls st h := z_callS (M' := mL_isTold) dlaw_104 rfl cs_L_154 gw562 ha hR (z_chk1 hc) (z_chk2 hc) (z_chk3 hc) gc kr kx
theorem dlaw_107 : decode code 107 = .ok (.ifCond .ne 5, 3) := by decide +kernel
theorem ilaw_107 (kt : ¬ x = 0 → z_J Z mlaw R k n Q 112 ls st h) (kf : x = 0 → z_J Z mlaw R k n Q 110 ls st h) : z_J Z mlaw R k n Q 107 ls (.int x :: st) h := z_if_ne dlaw_107 (tgt := 112) (by decide) rfl kt kf
def blaw_110 : zB := [(110, .iconst 0, 111, nI 0)]
theorem blaw_110_ok : z_ok code 110 blaw_110 111 = true := by decide +kernel
theorem ilaw_110 (hr : z_run 17 blaw_110 ls st = some (ls', st')) (g : z_J Z mlaw R k n Q 111 ls' st' h) : z_J Z mlaw R k n Q 110 ls st h := z_jr blaw_110 blaw_110_ok hr g
theorem dlaw_111 : decode code 111 = .ok (.ireturn, 1) := by decide +kernel
theorem ilaw_111 (hz : narrow .boolean (.int x) = .int x) (hk : k ≤ R.cells) (hs : n ≤ R.slots) (hq : Q (.inl (some (.int x))) h) : z_J Z mlaw R k n Q 111 ls [.int x] h := z_iret (ty := .boolean) dlaw_111 rfl hz hk hs hq
def blaw_112 : zB := [(112, .iconst 0, 113, nI 0), (113, .istore 12, 115, nI 0)]
theorem blaw_112_ok : z_ok code 112 blaw_112 115 = true := by decide +kernel
theorem ilaw_112 (hr : z_run 17 blaw_112 ls st = some (ls', st')) (g : z_J Z mlaw R k n Q 115 ls' st' h) : z_J Z mlaw R k n Q 112 ls st h := z_jr blaw_112 blaw_112_ok hr g
def blaw_115 : zB := [(115, .iload 12, 117, nI 0), (117, .bipush 45, 119, nI 45)]
theorem blaw_115_ok : z_ok code 115 blaw_115 119 = true := by decide +kernel
theorem ilaw_115 (hr : z_run 17 blaw_115 ls st = some (ls', st')) (g : z_J Z mlaw R k n Q 119 ls' st' h) : z_J Z mlaw R k n Q 115 ls st h := z_jr blaw_115 blaw_115_ok hr g
theorem dlaw_119 : decode code 119 = .ok (.if_icmp .ge 197, 3) := by decide +kernel
theorem ilaw_119 (kt : y ≤ x → z_J Z mlaw R k n Q 316 ls st h) (kf : ¬ y ≤ x → z_J Z mlaw R k n Q 122 ls st h) : z_J Z mlaw R k n Q 119 ls (.int y :: .int x :: st) h := z_ic_ge dlaw_119 (tgt := 316) (by decide) rfl kt kf
def blaw_122 : zB := [(122, .aload_n 0, 123, nI 0), (123, .iconst 3, 124, nI 3), (124, .iload 12, 126, nI 0), (126, .imul, 127, nI 0)]
theorem blaw_122_ok : z_ok code 122 blaw_122 127 = true := by decide +kernel
theorem ilaw_122 (hr : z_run 17 blaw_122 ls st = some (ls', st')) (g : z_J Z mlaw R k n Q 127 ls' st' h) : z_J Z mlaw R k n Q 122 ls st h := z_jr blaw_122 blaw_122_ok hr g
theorem dlaw_127 : decode code 127 = .ok (.invokestatic 158, 3) := by decide +kernel
theorem ilaw_127 (ha : z_args 2 st [] = some (As, rest)) (hc : z_chk rest As 2 = true) (hR : z_rm R R' 2 k n) (gc : z_J Z mL_cell R' 0 0 Q' 0 As [] h) (kr : ∀ (v : Option Value) (h' : zH), Q' (.inl v) h' → z_J Z mlaw R (k + R'.cells) (n + R'.slots) Q 130 ls (v.toList ++ rest) h') (kx : ∀ (E : String) (h' : zH), Q' (.inr E) h' → z_JX Z mlaw R (k + R'.cells) (n + R'.slots) Q 127 ls E h') : z_J Z mlaw R k n Q 127 ls st h := z_callS (M' := mL_cell) dlaw_127 rfl cs_L_158 gw164 ha hR (z_chk1 hc) (z_chk2 hc) (z_chk3 hc) gc kr kx
def blaw_130 : zB := [(130, .istore 13, 132, nI 0), (132, .aload_n 0, 133, nI 0), (133, .iconst 3, 134, nI 3), (134, .iload 12, 136, nI 0), (136, .imul, 137, nI 0), (137, .iconst 1, 138, nI 1), (138, .iadd, 139, nI 0)]
theorem blaw_130_ok : z_ok code 130 blaw_130 139 = true := by decide +kernel
theorem ilaw_130 (hr : z_run 17 blaw_130 ls st = some (ls', st')) (g : z_J Z mlaw R k n Q 139 ls' st' h) : z_J Z mlaw R k n Q 130 ls st h := z_jr blaw_130 blaw_130_ok hr g
theorem dlaw_139 : decode code 139 = .ok (.invokestatic 158, 3) := by decide +kernel
theorem ilaw_139 (ha : z_args 2 st [] = some (As, rest)) (hc : z_chk rest As 2 = true) (hR : z_rm R R' 2 k n) (gc : z_J Z mL_cell R' 0 0 Q' 0 As [] h) (kr : ∀ (v : Option Value) (h' : zH), Q' (.inl v) h' → z_J Z mlaw R (k + R'.cells) (n + R'.slots) Q 142 ls (v.toList ++ rest) h') (kx : ∀ (E : String) (h' : zH), Q' (.inr E) h' → z_JX Z mlaw R (k + R'.cells) (n + R'.slots) Q 139 ls E h') : z_J Z mlaw R k n Q 139 ls st h := z_callS (M' := mL_cell) dlaw_139 rfl cs_L_158 gw164 ha hR (z_chk1 hc) (z_chk2 hc) (z_chk3 hc) gc kr kx
def blaw_142 : zB := [(142, .istore 14, 144, nI 0), (144, .aload_n 0, 145, nI 0), (145, .iconst 3, 146, nI 3), (146, .iload 12, 148, nI 0), (148, .imul, 149, nI 0), (149, .iconst 2, 150, nI 2), (150, .iadd, 151, nI 0)]
theorem blaw_142_ok : z_ok code 142 blaw_142 151 = true := by decide +kernel
theorem ilaw_142 (hr : z_run 17 blaw_142 ls st = some (ls', st')) (g : z_J Z mlaw R k n Q 151 ls' st' h) : z_J Z mlaw R k n Q 142 ls st h := z_jr blaw_142 blaw_142_ok hr g
theorem dlaw_151 : decode code 151 = .ok (.invokestatic 158, 3) := by decide +kernel
theorem ilaw_151 (ha : z_args 2 st [] = some (As, rest)) (hc : z_chk rest As 2 = true) (hR : z_rm R R' 2 k n) (gc : z_J Z mL_cell R' 0 0 Q' 0 As [] h) (kr : ∀ (v : Option Value) (h' : zH), Q' (.inl v) h' → z_J Z mlaw R (k + R'.cells) (n + R'.slots) Q 154 ls (v.toList ++ rest) h') (kx : ∀ (E : String) (h' : zH), Q' (.inr E) h' → z_JX Z mlaw R (k + R'.cells) (n + R'.slots) Q 151 ls E h') : z_J Z mlaw R k n Q 151 ls st h := z_callS (M' := mL_cell) dlaw_151 rfl cs_L_158 gw164 ha hR (z_chk1 hc) (z_chk2 hc) (z_chk3 hc) gc kr kx
def blaw_154 : zB := [(154, .istore 15, 156, nI 0), (156, .iload 12, 158, nI 0), (158, .iconst 3, 159, nI 3)]
theorem blaw_154_ok : z_ok code 154 blaw_154 159 = true := by decide +kernel
theorem ilaw_154 (hr : z_run 17 blaw_154 ls st = some (ls', st')) (g : z_J Z mlaw R k n Q 159 ls' st' h) : z_J Z mlaw R k n Q 154 ls st h := z_jr blaw_154 blaw_154_ok hr g
theorem dlaw_159 : decode code 159 = .ok (.if_icmp .ge 7, 3) := by decide +kernel
theorem ilaw_159 (kt : y ≤ x → z_J Z mlaw R k n Q 166 ls st h) (kf : ¬ y ≤ x → z_J Z mlaw R k n Q 162 ls st h) : z_J Z mlaw R k n Q 159 ls (.int y :: .int x :: st) h := z_ic_ge dlaw_159 (tgt := 166) (by decide) rfl kt kf
def blaw_162 : zB := [(162, .iconst 5, 163, nI 5), (163, .goto 33, 196, nI 0)]
theorem blaw_162_ok : z_ok code 162 blaw_162 196 = true := by decide +kernel
theorem ilaw_162 (hr : z_run 17 blaw_162 ls st = some (ls', st')) (g : z_J Z mlaw R k n Q 196 ls' st' h) : z_J Z mlaw R k n Q 162 ls st h := z_jr blaw_162 blaw_162_ok hr g
def blaw_166 : zB := [(166, .iload 12, 168, nI 0), (168, .bipush 6, 170, nI 6)]
theorem blaw_166_ok : z_ok code 166 blaw_166 170 = true := by decide +kernel
theorem ilaw_166 (hr : z_run 17 blaw_166 ls st = some (ls', st')) (g : z_J Z mlaw R k n Q 170 ls' st' h) : z_J Z mlaw R k n Q 166 ls st h := z_jr blaw_166 blaw_166_ok hr g
theorem dlaw_170 : decode code 170 = .ok (.if_icmp .ge 7, 3) := by decide +kernel
theorem ilaw_170 (kt : y ≤ x → z_J Z mlaw R k n Q 177 ls st h) (kf : ¬ y ≤ x → z_J Z mlaw R k n Q 173 ls st h) : z_J Z mlaw R k n Q 170 ls (.int y :: .int x :: st) h := z_ic_ge dlaw_170 (tgt := 177) (by decide) rfl kt kf
def blaw_173 : zB := [(173, .iconst 0, 174, nI 0), (174, .goto 22, 196, nI 0)]
theorem blaw_173_ok : z_ok code 173 blaw_173 196 = true := by decide +kernel
theorem ilaw_173 (hr : z_run 17 blaw_173 ls st = some (ls', st')) (g : z_J Z mlaw R k n Q 196 ls' st' h) : z_J Z mlaw R k n Q 173 ls st h := z_jr blaw_173 blaw_173_ok hr g
def blaw_177 : zB := [(177, .iload 12, 179, nI 0), (179, .bipush 10, 181, nI 10)]
theorem blaw_177_ok : z_ok code 177 blaw_177 181 = true := by decide +kernel
theorem ilaw_177 (hr : z_run 17 blaw_177 ls st = some (ls', st')) (g : z_J Z mlaw R k n Q 181 ls' st' h) : z_J Z mlaw R k n Q 177 ls st h := z_jr blaw_177 blaw_177_ok hr g
theorem dlaw_181 : decode code 181 = .ok (.if_icmp .ge 8, 3) := by decide +kernel
theorem ilaw_181 (kt : y ≤ x → z_J Z mlaw R k n Q 189 ls st h) (kf : ¬ y ≤ x → z_J Z mlaw R k n Q 184 ls st h) : z_J Z mlaw R k n Q 181 ls (.int y :: .int x :: st) h := z_ic_ge dlaw_181 (tgt := 189) (by decide) rfl kt kf
def blaw_184 : zB := [(184, .bipush 9, 186, nI 9), (186, .goto 10, 196, nI 0)]
theorem blaw_184_ok : z_ok code 184 blaw_184 196 = true := by decide +kernel
theorem ilaw_184 (hr : z_run 17 blaw_184 ls st = some (ls', st')) (g : z_J Z mlaw R k n Q 196 ls' st' h) : z_J Z mlaw R k n Q 184 ls st h := z_jr blaw_184 blaw_184_ok hr g
def blaw_189 : zB := [(189, .iload 13, 191, nI 0), (191, .bipush 20, 193, nI 20)]
theorem blaw_189_ok : z_ok code 189 blaw_189 193 = true := by decide +kernel
theorem ilaw_189 (hr : z_run 17 blaw_189 ls st = some (ls', st')) (g : z_J Z mlaw R k n Q 193 ls' st' h) : z_J Z mlaw R k n Q 189 ls st h := z_jr blaw_189 blaw_189_ok hr g
theorem dlaw_193 : decode code 193 = .ok (.invokestatic 87, 3) := by decide +kernel
theorem ilaw_193 (ha : z_args 2 st [] = some (As, rest)) (hc : z_chk rest As 2 = true) (hR : z_rm R R' 2 k n) (gc : z_J Z mL_low R' 0 0 Q' 0 As [] h) (kr : ∀ (v : Option Value) (h' : zH), Q' (.inl v) h' → z_J Z mlaw R (k + R'.cells) (n + R'.slots) Q 196 ls (v.toList ++ rest) h') (kx : ∀ (E : String) (h' : zH), Q' (.inr E) h' → z_JX Z mlaw R (k + R'.cells) (n + R'.slots) Q 193 ls E h') : z_J Z mlaw R k n Q 193 ls st h := z_callS (M' := mL_low) dlaw_193 rfl cs_L_87 gw168 ha hR (z_chk1 hc) (z_chk2 hc) (z_chk3 hc) gc kr kx
def blaw_196 : zB := [(196, .istore 16, 198, nI 0), (198, .iload 16, 200, nI 0), (200, .iconst 5, 201, nI 5)]
theorem blaw_196_ok : z_ok code 196 blaw_196 201 = true := by decide +kernel
theorem ilaw_196 (hr : z_run 17 blaw_196 ls st = some (ls', st')) (g : z_J Z mlaw R k n Q 201 ls' st' h) : z_J Z mlaw R k n Q 196 ls st h := z_jr blaw_196 blaw_196_ok hr g
theorem dlaw_201 : decode code 201 = .ok (.if_icmp .ge 23, 3) := by decide +kernel
theorem ilaw_201 (kt : y ≤ x → z_J Z mlaw R k n Q 224 ls st h) (kf : ¬ y ≤ x → z_J Z mlaw R k n Q 204 ls st h) : z_J Z mlaw R k n Q 201 ls (.int y :: .int x :: st) h := z_ic_ge dlaw_201 (tgt := 224) (by decide) rfl kt kf
def blaw_204 : zB := [(204, .aload_n 1, 205, nI 0), (205, .iload 16, 207, nI 0), (207, .iload 14, 209, nI 0), (209, .iload 15, 211, nI 0), (211, .aload_n 2, 212, nI 0), (212, .aload_n 3, 213, nI 0), (213, .aload 11, 215, nI 0)]
theorem blaw_204_ok : z_ok code 204 blaw_204 215 = true := by decide +kernel
theorem ilaw_204 (hr : z_run 17 blaw_204 ls st = some (ls', st')) (g : z_J Z mlaw R k n Q 215 ls' st' h) : z_J Z mlaw R k n Q 204 ls st h := z_jr blaw_204 blaw_204_ok hr g
theorem dlaw_215 : decode code 215 = .ok (.invokestatic 162, 3) := by decide +kernel
theorem ilaw_215 (ha : z_args 7 st [] = some (As, rest)) (hc : z_chk rest As 13 = true) (hR : z_rm R R' 13 k n) (gc : z_J Z mL_rights R' 0 0 Q' 0 As [] h) (kr : ∀ (v : Option Value) (h' : zH), Q' (.inl v) h' → z_J Z mlaw R (k + R'.cells) (n + R'.slots) Q 218 ls (v.toList ++ rest) h') (kx : ∀ (E : String) (h' : zH), Q' (.inr E) h' → z_JX Z mlaw R (k + R'.cells) (n + R'.slots) Q 215 ls E h') : z_J Z mlaw R k n Q 215 ls st h := z_callS (M' := mL_rights) dlaw_215 rfl cs_L_162 gw171 ha hR (z_chk1 hc) (z_chk2 hc) (z_chk3 hc) gc kr kx
theorem dlaw_218 : decode code 218 = .ok (.ifCond .eq 90, 3) := by decide +kernel
theorem ilaw_218 (kt : x = 0 → z_J Z mlaw R k n Q 308 ls st h) (kf : ¬ x = 0 → z_J Z mlaw R k n Q 221 ls st h) : z_J Z mlaw R k n Q 218 ls (.int x :: st) h := z_if_eq dlaw_218 (tgt := 308) (by decide) rfl kt kf
def blaw_221 : zB := [(221, .goto 42, 263, nI 0)]
theorem blaw_221_ok : z_ok code 221 blaw_221 263 = true := by decide +kernel
theorem ilaw_221 (hr : z_run 17 blaw_221 ls st = some (ls', st')) (g : z_J Z mlaw R k n Q 263 ls' st' h) : z_J Z mlaw R k n Q 221 ls st h := z_jr blaw_221 blaw_221_ok hr g
def blaw_224 : zB := [(224, .aload_n 1, 225, nI 0), (225, .iload 16, 227, nI 0), (227, .iconst 5, 228, nI 5), (228, .isub, 229, nI 0), (229, .bipush 12, 231, nI 12)]
theorem blaw_224_ok : z_ok code 224 blaw_224 231 = true := by decide +kernel
theorem ilaw_224 (hr : z_run 17 blaw_224 ls st = some (ls', st')) (g : z_J Z mlaw R k n Q 231 ls' st' h) : z_J Z mlaw R k n Q 224 ls st h := z_jr blaw_224 blaw_224_ok hr g
theorem dlaw_231 : decode code 231 = .ok (.if_icmp .ge 10, 3) := by decide +kernel
theorem ilaw_231 (kt : y ≤ x → z_J Z mlaw R k n Q 241 ls st h) (kf : ¬ y ≤ x → z_J Z mlaw R k n Q 234 ls st h) : z_J Z mlaw R k n Q 231 ls (.int y :: .int x :: st) h := z_ic_ge dlaw_231 (tgt := 241) (by decide) rfl kt kf
def blaw_234 : zB := [(234, .iload 16, 236, nI 0), (236, .iconst 5, 237, nI 5), (237, .isub, 238, nI 0), (238, .goto 5, 243, nI 0)]
theorem blaw_234_ok : z_ok code 234 blaw_234 243 = true := by decide +kernel
theorem ilaw_234 (hr : z_run 17 blaw_234 ls st = some (ls', st')) (g : z_J Z mlaw R k n Q 243 ls' st' h) : z_J Z mlaw R k n Q 234 ls st h := z_jr blaw_234 blaw_234_ok hr g
def blaw_241 : zB := [(241, .bipush 6, 243, nI 6)]
theorem blaw_241_ok : z_ok code 241 blaw_241 243 = true := by decide +kernel
theorem ilaw_241 (hr : z_run 17 blaw_241 ls st = some (ls', st')) (g : z_J Z mlaw R k n Q 243 ls' st' h) : z_J Z mlaw R k n Q 241 ls st h := z_jr blaw_241 blaw_241_ok hr g
def blaw_243 : zB := [(243, .iload 14, 245, nI 0), (245, .iload 15, 247, nI 0), (247, .aload 4, 249, nI 0), (249, .aload 5, 251, nI 0), (251, .aload 6, 253, nI 0), (253, .aload 7, 255, nI 0), (255, .aload 11, 257, nI 0)]
theorem blaw_243_ok : z_ok code 243 blaw_243 257 = true := by decide +kernel
theorem ilaw_243 (hr : z_run 17 blaw_243 ls st = some (ls', st')) (g : z_J Z mlaw R k n Q 257 ls' st' h) : z_J Z mlaw R k n Q 243 ls st h := z_jr blaw_243 blaw_243_ok hr g
theorem dlaw_257 : decode code 257 = .ok (.invokestatic 165, 3) := by decide +kernel
theorem ilaw_257 (ha : z_args 9 st [] = some (As, rest)) (hc : z_chk rest As 18 = true) (hR : z_rm R R' 18 k n) (gc : z_J Z mL_machines R' 0 0 Q' 0 As [] h) (kr : ∀ (v : Option Value) (h' : zH), Q' (.inl v) h' → z_J Z mlaw R (k + R'.cells) (n + R'.slots) Q 260 ls (v.toList ++ rest) h') (kx : ∀ (E : String) (h' : zH), Q' (.inr E) h' → z_JX Z mlaw R (k + R'.cells) (n + R'.slots) Q 257 ls E h') : z_J Z mlaw R k n Q 257 ls st h := z_callS (M' := mL_machines) dlaw_257 rfl cs_L_165 gw405 ha hR (z_chk1 hc) (z_chk2 hc) (z_chk3 hc) gc kr kx
theorem dlaw_260 : decode code 260 = .ok (.ifCond .eq 48, 3) := by decide +kernel
theorem ilaw_260 (kt : x = 0 → z_J Z mlaw R k n Q 308 ls st h) (kf : ¬ x = 0 → z_J Z mlaw R k n Q 263 ls st h) : z_J Z mlaw R k n Q 260 ls (.int x :: st) h := z_if_eq dlaw_260 (tgt := 308) (by decide) rfl kt kf
def blaw_263 : zB := [(263, .aload_n 1, 264, nI 0), (264, .iload 13, 266, nI 0), (266, .iconst 5, 267, nI 5), (267, .ishr, 268, nI 0), (268, .iload 14, 270, nI 0), (270, .ixor, 271, nI 0), (271, .aload_n 2, 272, nI 0), (272, .aload_n 3, 273, nI 0), (273, .aload 4, 275, nI 0), (275, .aload 5, 277, nI 0), (277, .aload 6, 279, nI 0), (279, .aload 7, 281, nI 0), (281, .aload 8, 283, nI 0), (283, .aload 9, 285, nI 0), (285, .aload 10, 287, nI 0), (287, .aload 11, 289, nI 0), (289, .iload 12, 291, nI 0), (291, .iconst 4, 292, nI 4)]
theorem blaw_263_ok : z_ok code 263 blaw_263 292 = true := by decide +kernel
theorem ilaw_263 (hr : z_run 17 blaw_263 ls st = some (ls', st')) (g : z_J Z mlaw R k n Q 292 ls' st' h) : z_J Z mlaw R k n Q 263 ls st h := z_jr blaw_263 blaw_263_ok hr g
theorem dlaw_292 : decode code 292 = .ok (.irem, 1) := by decide +kernel
theorem ilaw_292 (hy : ¬ y = 0) (g : z_J Z mlaw R k n Q 293 ls (.int (x - x / y * y) :: st) h) : z_J Z mlaw R k n Q 292 ls (.int y :: .int x :: st) h := z_irem dlaw_292 rfl hy g
def blaw_293 : zB := [(293, .iconst 3, 294, nI 3)]
theorem blaw_293_ok : z_ok code 293 blaw_293 294 = true := by decide +kernel
theorem ilaw_293 (hr : z_run 17 blaw_293 ls st = some (ls', st')) (g : z_J Z mlaw R k n Q 294 ls' st' h) : z_J Z mlaw R k n Q 293 ls st h := z_jr blaw_293 blaw_293_ok hr g
theorem dlaw_294 : decode code 294 = .ok (.if_icmp .ne 7, 3) := by decide +kernel
theorem ilaw_294 (kt : ¬ x = y → z_J Z mlaw R k n Q 301 ls st h) (kf : x = y → z_J Z mlaw R k n Q 297 ls st h) : z_J Z mlaw R k n Q 294 ls (.int y :: .int x :: st) h := z_ic_ne dlaw_294 (tgt := 301) (by decide) rfl kt kf
def blaw_297 : zB := [(297, .iconst 1, 298, nI 1), (298, .goto 4, 302, nI 0)]
theorem blaw_297_ok : z_ok code 297 blaw_297 302 = true := by decide +kernel
theorem ilaw_297 (hr : z_run 17 blaw_297 ls st = some (ls', st')) (g : z_J Z mlaw R k n Q 302 ls' st' h) : z_J Z mlaw R k n Q 297 ls st h := z_jr blaw_297 blaw_297_ok hr g
def blaw_301 : zB := [(301, .iconst 0, 302, nI 0)]
theorem blaw_301_ok : z_ok code 301 blaw_301 302 = true := by decide +kernel
theorem ilaw_301 (hr : z_run 17 blaw_301 ls st = some (ls', st')) (g : z_J Z mlaw R k n Q 302 ls' st' h) : z_J Z mlaw R k n Q 301 ls st h := z_jr blaw_301 blaw_301_ok hr g
theorem dlaw_302 : decode code 302 = .ok (.invokestatic 154, 3) := by decide +kernel
theorem ilaw_302 (ha : z_args 13 st [] = some (As, rest)) (hc : z_chk rest As 19 = true) (hR : z_rm R R' 19 k n) (gc : z_J Z mL_isTold R' 0 0 Q' 0 As [] h) (kr : ∀ (v : Option Value) (h' : zH), Q' (.inl v) h' → z_J Z mlaw R (k + R'.cells) (n + R'.slots) Q 305 ls (v.toList ++ rest) h') (kx : ∀ (E : String) (h' : zH), Q' (.inr E) h' → z_JX Z mlaw R (k + R'.cells) (n + R'.slots) Q 302 ls E h') : z_J Z mlaw R k n Q 302 ls st h := z_callS (M' := mL_isTold) dlaw_302 rfl cs_L_154 gw562 ha hR (z_chk1 hc) (z_chk2 hc) (z_chk3 hc) gc kr kx
theorem dlaw_305 : decode code 305 = .ok (.ifCond .ne 5, 3) := by decide +kernel
theorem ilaw_305 (kt : ¬ x = 0 → z_J Z mlaw R k n Q 310 ls st h) (kf : x = 0 → z_J Z mlaw R k n Q 308 ls st h) : z_J Z mlaw R k n Q 305 ls (.int x :: st) h := z_if_ne dlaw_305 (tgt := 310) (by decide) rfl kt kf
def blaw_308 : zB := [(308, .iconst 0, 309, nI 0)]
theorem blaw_308_ok : z_ok code 308 blaw_308 309 = true := by decide +kernel
theorem ilaw_308 (hr : z_run 17 blaw_308 ls st = some (ls', st')) (g : z_J Z mlaw R k n Q 309 ls' st' h) : z_J Z mlaw R k n Q 308 ls st h := z_jr blaw_308 blaw_308_ok hr g
theorem dlaw_309 : decode code 309 = .ok (.ireturn, 1) := by decide +kernel
theorem ilaw_309 (hz : narrow .boolean (.int x) = .int x) (hk : k ≤ R.cells) (hs : n ≤ R.slots) (hq : Q (.inl (some (.int x))) h) : z_J Z mlaw R k n Q 309 ls [.int x] h := z_iret (ty := .boolean) dlaw_309 rfl hz hk hs hq
def blaw_310 : zB := [(310, .iinc 12 1, 313, nI 1), (313, .goto (-198), 115, nI 0)]
theorem blaw_310_ok : z_ok code 310 blaw_310 115 = true := by decide +kernel
theorem ilaw_310 (hr : z_run 17 blaw_310 ls st = some (ls', st')) (g : z_J Z mlaw R k n Q 115 ls' st' h) : z_J Z mlaw R k n Q 310 ls st h := z_jr blaw_310 blaw_310_ok hr g
def blaw_316 : zB := [(316, .iconst 1, 317, nI 1)]
theorem blaw_316_ok : z_ok code 316 blaw_316 317 = true := by decide +kernel
theorem ilaw_316 (hr : z_run 17 blaw_316 ls st = some (ls', st')) (g : z_J Z mlaw R k n Q 317 ls' st' h) : z_J Z mlaw R k n Q 316 ls st h := z_jr blaw_316 blaw_316_ok hr g
theorem dlaw_317 : decode code 317 = .ok (.ireturn, 1) := by decide +kernel
theorem ilaw_317 (hz : narrow .boolean (.int x) = .int x) (hk : k ≤ R.cells) (hs : n ≤ R.slots) (hq : Q (.inl (some (.int x))) h) : z_J Z mlaw R k n Q 317 ls [.int x] h := z_iret (ty := .boolean) dlaw_317 rfl hz hk hs hq
end ZL
