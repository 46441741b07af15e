section ZL
variable {Z : zZ} {R R' : Room} {k n : Nat} {Q Q' : zO → zH → Prop} {ls ls' st st' As rest : List Value} {h : zH} {a b r rv j N : Nat} {fs vs : List Value} {v : Value} {x y i : Int32}
/-! L_addRight -/
def bL_addRight_0 : zB := [(0, .aload 6, 2, nI 0), (2, .iconst 0, 3, nI 0), (3, .aload_n 0, 4, nI 0), (4, .iload_n 1, 5, nI 0), (5, .iload_n 2, 6, nI 0), (6, .iload_n 3, 7, nI 0), (7, .iload 4, 9, nI 0), (9, .iload 5, 11, nI 0)]
theorem bL_addRight_0_ok : z_ok cL_addRight 0 bL_addRight_0 11 = true := by decide +kernel
theorem iL_addRight_0 (hr : z_run 8 bL_addRight_0 ls st = some (ls', st')) (g : z_J Z mL_addRight R k n Q 11 ls' st' h) : z_J Z mL_addRight R k n Q 0 ls st h := z_jr bL_addRight_0 bL_addRight_0_ok hr g
theorem dL_addRight_11 : decode cL_addRight 11 = .ok (.invokevirtual 7, 3) := by decide +kernel
theorem iL_addRight_11 (ha : z_args 5 st [] = some (As, .ref b :: rest)) (hc : z_chk rest (.ref b :: As) 6 = true) (hh : h r = some (b, .inr (6, fs))) (hR : z_rm R R' 6 k n) (gc : z_J Z mX5_addRight R' 0 0 Q' 0 (.ref b :: As) [] h) (kr : ∀ (v : Option Value) (h' : zH), Q' (.inl v) h' → z_J Z mL_addRight R (k + R'.cells) (n + R'.slots) Q 14 ls (v.toList ++ rest) h') (kx : ∀ (E : String) (h' : zH), Q' (.inr E) h' → z_JX Z mL_addRight R (k + R'.cells) (n + R'.slots) Q 11 ls E h') : z_J Z mL_addRight R k n Q 11 ls st h := z_callV (M' := mX5_addRight) dL_addRight_11 rfl cs_L_7 rfl gw196 gw197 ha hh (ci := 6) rfl hR (z_chk1 hc) (z_chk2 hc) (z_chk3 hc) gc kr kx
def bL_addRight_14 : zB := [(14, .i2l, 15, nI 0)]
theorem bL_addRight_14_ok : z_ok cL_addRight 14 bL_addRight_14 15 = true := by decide +kernel
theorem iL_addRight_14 (hr : z_run 8 bL_addRight_14 ls st = some (ls', st')) (g : z_J Z mL_addRight R k n Q 15 ls' st' h) : z_J Z mL_addRight R k n Q 14 ls st h := z_jr bL_addRight_14 bL_addRight_14_ok hr g
theorem dL_addRight_15 : decode cL_addRight 15 = .ok (.lastore, 1) := by decide +kernel
theorem iL_addRight_15 {f : Nat → Int64} {xl : Int64} (hh : h r = some (a, .inl (2, N, .inr (.inl f)))) (hi : i = nI j) (hj : j < N) (hN : N < 2 ^ 31) (g : z_J Z mL_addRight R k n Q 16 ls st (z_u h r (a, .inl (2, N, .inr (.inl (vp_updL f j xl)))))) : z_J Z mL_addRight R k n Q 15 ls (.long xl :: .int i :: .ref a :: st) h := z_last dL_addRight_15 rfl hh hi hj hN g
def bL_addRight_16 : zB := [(16, .goto 11, 27, nI 0)]
theorem bL_addRight_16_ok : z_ok cL_addRight 16 bL_addRight_16 27 = true := by decide +kernel
theorem iL_addRight_16 (hr : z_run 8 bL_addRight_16 ls st = some (ls', st')) (g : z_J Z mL_addRight R k n Q 27 ls' st' h) : z_J Z mL_addRight R k n Q 16 ls st h := z_jr bL_addRight_16 bL_addRight_16_ok hr g
def bL_addRight_19 : zB := [(19, .astore 7, 21, nI 0), (21, .iconst 1, 22, nI 1)]
theorem bL_addRight_19_ok : z_ok cL_addRight 19 bL_addRight_19 22 = true := by decide +kernel
theorem iL_addRight_19 (hr : z_run 8 bL_addRight_19 ls st = some (ls', st')) (g : z_J Z mL_addRight R k n Q 22 ls' st' h) : z_J Z mL_addRight R k n Q 19 ls st h := z_jr bL_addRight_19 bL_addRight_19_ok hr g
theorem dL_addRight_22 : decode cL_addRight 22 = .ok (.ireturn, 1) := by decide +kernel
theorem iL_addRight_22 (hk : k ≤ R.cells) (hs : n ≤ R.slots) (hq : Q (.inl (some (.int x))) h) : z_J Z mL_addRight R k n Q 22 ls [.int x] h := z_iret (ty := .int) dL_addRight_22 rfl rfl hk hs hq
def bL_addRight_23 : zB := [(23, .astore 7, 25, nI 0), (25, .iconst 2, 26, nI 2)]
theorem bL_addRight_23_ok : z_ok cL_addRight 23 bL_addRight_23 26 = true := by decide +kernel
theorem iL_addRight_23 (hr : z_run 8 bL_addRight_23 ls st = some (ls', st')) (g : z_J Z mL_addRight R k n Q 26 ls' st' h) : z_J Z mL_addRight R k n Q 23 ls st h := z_jr bL_addRight_23 bL_addRight_23_ok hr g
theorem dL_addRight_26 : decode cL_addRight 26 = .ok (.ireturn, 1) := by decide +kernel
theorem iL_addRight_26 (hk : k ≤ R.cells) (hs : n ≤ R.slots) (hq : Q (.inl (some (.int x))) h) : z_J Z mL_addRight R k n Q 26 ls [.int x] h := z_iret (ty := .int) dL_addRight_26 rfl rfl hk hs hq
def bL_addRight_27 : zB := [(27, .iconst 0, 28, nI 0)]
theorem bL_addRight_27_ok : z_ok cL_addRight 27 bL_addRight_27 28 = true := by decide +kernel
theorem iL_addRight_27 (hr : z_run 8 bL_addRight_27 ls st = some (ls', st')) (g : z_J Z mL_addRight R k n Q 28 ls' st' h) : z_J Z mL_addRight R k n Q 27 ls st h := z_jr bL_addRight_27 bL_addRight_27_ok hr g
theorem dL_addRight_28 : decode cL_addRight 28 = .ok (.ireturn, 1) := by decide +kernel
theorem iL_addRight_28 (hk : k ≤ R.cells) (hs : n ≤ R.slots) (hq : Q (.inl (some (.int x))) h) : z_J Z mL_addRight R k n Q 28 ls [.int x] h := z_iret (ty := .int) dL_addRight_28 rfl rfl hk hs hq
/-! L_upgrade -/
def bL_upgrade_0 : zB := [(0, .aload_n 3, 1, nI 0), (1, .iconst 0, 2, nI 0), (2, .aload_n 0, 3, nI 0), (3, .iload_n 1, 4, nI 0), (4, .iload_n 2, 5, nI 0)]
theorem bL_upgrade_0_ok : z_ok cL_upgrade 0 bL_upgrade_0 5 = true := by decide +kernel
theorem iL_upgrade_0 (hr : z_run 5 bL_upgrade_0 ls st = some (ls', st')) (g : z_J Z mL_upgrade R k n Q 5 ls' st' h) : z_J Z mL_upgrade R k n Q 0 ls st h := z_jr bL_upgrade_0 bL_upgrade_0_ok hr g
theorem dL_upgrade_5 : decode cL_upgrade 5 = .ok (.invokevirtual 17, 3) := by decide +kernel
theorem iL_upgrade_5 (ha : z_args 2 st [] = some (As, .ref b :: rest)) (hc : z_chk rest (.ref b :: As) 5 = true) (hh : h r = some (b, .inr (6, fs))) (hR : z_rm R R' 5 k n) (gc : z_J Z mX5_upgrade R' 0 0 Q' 0 (.ref b :: As) [] h) (kr : ∀ (v : Option Value) (h' : zH), Q' (.inl v) h' → z_J Z mL_upgrade R (k + R'.cells) (n + R'.slots) Q 8 ls (v.toList ++ rest) h') (kx : ∀ (E : String) (h' : zH), Q' (.inr E) h' → z_JX Z mL_upgrade R (k + R'.cells) (n + R'.slots) Q 5 ls E h') : z_J Z mL_upgrade R k n Q 5 ls st h := z_callV (M' := mX5_upgrade) dL_upgrade_5 rfl cs_L_17 rfl gw373 gw374 ha hh (ci := 6) rfl hR (z_chk1 hc) (z_chk2 hc) (z_chk3 hc) gc kr kx
def bL_upgrade_8 : zB := [(8, .i2l, 9, nI 0)]
theorem bL_upgrade_8_ok : z_ok cL_upgrade 8 bL_upgrade_8 9 = true := by decide +kernel
theorem iL_upgrade_8 (hr : z_run 5 bL_upgrade_8 ls st = some (ls', st')) (g : z_J Z mL_upgrade R k n Q 9 ls' st' h) : z_J Z mL_upgrade R k n Q 8 ls st h := z_jr bL_upgrade_8 bL_upgrade_8_ok hr g
theorem dL_upgrade_9 : decode cL_upgrade 9 = .ok (.lastore, 1) := by decide +kernel
theorem iL_upgrade_9 {f : Nat → Int64} {xl : Int64} (hh : h r = some (a, .inl (2, N, .inr (.inl f)))) (hi : i = nI j) (hj : j < N) (hN : N < 2 ^ 31) (g : z_J Z mL_upgrade R k n Q 10 ls st (z_u h r (a, .inl (2, N, .inr (.inl (vp_updL f j xl)))))) : z_J Z mL_upgrade R k n Q 9 ls (.long xl :: .int i :: .ref a :: st) h := z_last dL_upgrade_9 rfl hh hi hj hN g
def bL_upgrade_10 : zB := [(10, .goto 15, 25, nI 0)]
theorem bL_upgrade_10_ok : z_ok cL_upgrade 10 bL_upgrade_10 25 = true := by decide +kernel
theorem iL_upgrade_10 (hr : z_run 5 bL_upgrade_10 ls st = some (ls', st')) (g : z_J Z mL_upgrade R k n Q 25 ls' st' h) : z_J Z mL_upgrade R k n Q 10 ls st h := z_jr bL_upgrade_10 bL_upgrade_10_ok hr g
def bL_upgrade_13 : zB := [(13, .astore 4, 15, nI 0), (15, .iconst 1, 16, nI 1)]
theorem bL_upgrade_13_ok : z_ok cL_upgrade 13 bL_upgrade_13 16 = true := by decide +kernel
theorem iL_upgrade_13 (hr : z_run 5 bL_upgrade_13 ls st = some (ls', st')) (g : z_J Z mL_upgrade R k n Q 16 ls' st' h) : z_J Z mL_upgrade R k n Q 13 ls st h := z_jr bL_upgrade_13 bL_upgrade_13_ok hr g
theorem dL_upgrade_16 : decode cL_upgrade 16 = .ok (.ireturn, 1) := by decide +kernel
theorem iL_upgrade_16 (hk : k ≤ R.cells) (hs : n ≤ R.slots) (hq : Q (.inl (some (.int x))) h) : z_J Z mL_upgrade R k n Q 16 ls [.int x] h := z_iret (ty := .int) dL_upgrade_16 rfl rfl hk hs hq
def bL_upgrade_17 : zB := [(17, .astore 4, 19, nI 0), (19, .iconst 2, 20, nI 2)]
theorem bL_upgrade_17_ok : z_ok cL_upgrade 17 bL_upgrade_17 20 = true := by decide +kernel
theorem iL_upgrade_17 (hr : z_run 5 bL_upgrade_17 ls st = some (ls', st')) (g : z_J Z mL_upgrade R k n Q 20 ls' st' h) : z_J Z mL_upgrade R k n Q 17 ls st h := z_jr bL_upgrade_17 bL_upgrade_17_ok hr g
theorem dL_upgrade_20 : decode cL_upgrade 20 = .ok (.ireturn, 1) := by decide +kernel
theorem iL_upgrade_20 (hk : k ≤ R.cells) (hs : n ≤ R.slots) (hq : Q (.inl (some (.int x))) h) : z_J Z mL_upgrade R k n Q 20 ls [.int x] h := z_iret (ty := .int) dL_upgrade_20 rfl rfl hk hs hq
def bL_upgrade_21 : zB := [(21, .astore 4, 23, nI 0), (23, .iconst 3, 24, nI 3)]
theorem bL_upgrade_21_ok : z_ok cL_upgrade 21 bL_upgrade_21 24 = true := by decide +kernel
theorem iL_upgrade_21 (hr : z_run 5 bL_upgrade_21 ls st = some (ls', st')) (g : z_J Z mL_upgrade R k n Q 24 ls' st' h) : z_J Z mL_upgrade R k n Q 21 ls st h := z_jr bL_upgrade_21 bL_upgrade_21_ok hr g
theorem dL_upgrade_24 : decode cL_upgrade 24 = .ok (.ireturn, 1) := by decide +kernel
theorem iL_upgrade_24 (hk : k ≤ R.cells) (hs : n ≤ R.slots) (hq : Q (.inl (some (.int x))) h) : z_J Z mL_upgrade R k n Q 24 ls [.int x] h := z_iret (ty := .int) dL_upgrade_24 rfl rfl hk hs hq
def bL_upgrade_25 : zB := [(25, .iconst 0, 26, nI 0)]
theorem bL_upgrade_25_ok : z_ok cL_upgrade 25 bL_upgrade_25 26 = true := by decide +kernel
theorem iL_upgrade_25 (hr : z_run 5 bL_upgrade_25 ls st = some (ls', st')) (g : z_J Z mL_upgrade R k n Q 26 ls' st' h) : z_J Z mL_upgrade R k n Q 25 ls st h := z_jr bL_upgrade_25 bL_upgrade_25_ok hr g
theorem dL_upgrade_26 : decode cL_upgrade 26 = .ok (.ireturn, 1) := by decide +kernel
theorem iL_upgrade_26 (hk : k ≤ R.cells) (hs : n ≤ R.slots) (hq : Q (.inl (some (.int x))) h) : z_J Z mL_upgrade R k n Q 26 ls [.int x] h := z_iret (ty := .int) dL_upgrade_26 rfl rfl hk hs hq
/-! L_setUnits -/
def bL_setUnits_0 : zB := [(0, .aload_n 3, 1, nI 0), (1, .iconst 0, 2, nI 0), (2, .aload_n 0, 3, nI 0), (3, .iload_n 1, 4, nI 0), (4, .iload_n 2, 5, nI 0)]
theorem bL_setUnits_0_ok : z_ok cL_setUnits 0 bL_setUnits_0 5 = true := by decide +kernel
theorem iL_setUnits_0 (hr : z_run 5 bL_setUnits_0 ls st = some (ls', st')) (g : z_J Z mL_setUnits R k n Q 5 ls' st' h) : z_J Z mL_setUnits R k n Q 0 ls st h := z_jr bL_setUnits_0 bL_setUnits_0_ok hr g
theorem dL_setUnits_5 : decode cL_setUnits 5 = .ok (.invokevirtual 23, 3) := by decide +kernel
theorem iL_setUnits_5 (ha : z_args 2 st [] = some (As, .ref b :: rest)) (hc : z_chk rest (.ref b :: As) 5 = true) (hh : h r = some (b, .inr (6, fs))) (hR : z_rm R R' 5 k n) (gc : z_J Z mX5_setUnits R' 0 0 Q' 0 (.ref b :: As) [] h) (kr : ∀ (v : Option Value) (h' : zH), Q' (.inl v) h' → z_J Z mL_setUnits R (k + R'.cells) (n + R'.slots) Q 8 ls (v.toList ++ rest) h') (kx : ∀ (E : String) (h' : zH), Q' (.inr E) h' → z_JX Z mL_setUnits R (k + R'.cells) (n + R'.slots) Q 5 ls E h') : z_J Z mL_setUnits R k n Q 5 ls st h := z_callV (M' := mX5_setUnits) dL_setUnits_5 rfl cs_L_23 rfl gw415 gw416 ha hh (ci := 6) rfl hR (z_chk1 hc) (z_chk2 hc) (z_chk3 hc) gc kr kx
def bL_setUnits_8 : zB := [(8, .i2l, 9, nI 0)]
theorem bL_setUnits_8_ok : z_ok cL_setUnits 8 bL_setUnits_8 9 = true := by decide +kernel
theorem iL_setUnits_8 (hr : z_run 5 bL_setUnits_8 ls st = some (ls', st')) (g : z_J Z mL_setUnits R k n Q 9 ls' st' h) : z_J Z mL_setUnits R k n Q 8 ls st h := z_jr bL_setUnits_8 bL_setUnits_8_ok hr g
theorem dL_setUnits_9 : decode cL_setUnits 9 = .ok (.lastore, 1) := by decide +kernel
theorem iL_setUnits_9 {f : Nat → Int64} {xl : Int64} (hh : h r = some (a, .inl (2, N, .inr (.inl f)))) (hi : i = nI j) (hj : j < N) (hN : N < 2 ^ 31) (g : z_J Z mL_setUnits R k n Q 10 ls st (z_u h r (a, .inl (2, N, .inr (.inl (vp_updL f j xl)))))) : z_J Z mL_setUnits R k n Q 9 ls (.long xl :: .int i :: .ref a :: st) h := z_last dL_setUnits_9 rfl hh hi hj hN g
def bL_setUnits_10 : zB := [(10, .goto 11, 21, nI 0)]
theorem bL_setUnits_10_ok : z_ok cL_setUnits 10 bL_setUnits_10 21 = true := by decide +kernel
theorem iL_setUnits_10 (hr : z_run 5 bL_setUnits_10 ls st = some (ls', st')) (g : z_J Z mL_setUnits R k n Q 21 ls' st' h) : z_J Z mL_setUnits R k n Q 10 ls st h := z_jr bL_setUnits_10 bL_setUnits_10_ok hr g
def bL_setUnits_13 : zB := [(13, .astore 4, 15, nI 0), (15, .iconst 1, 16, nI 1)]
theorem bL_setUnits_13_ok : z_ok cL_setUnits 13 bL_setUnits_13 16 = true := by decide +kernel
theorem iL_setUnits_13 (hr : z_run 5 bL_setUnits_13 ls st = some (ls', st')) (g : z_J Z mL_setUnits R k n Q 16 ls' st' h) : z_J Z mL_setUnits R k n Q 13 ls st h := z_jr bL_setUnits_13 bL_setUnits_13_ok hr g
theorem dL_setUnits_16 : decode cL_setUnits 16 = .ok (.ireturn, 1) := by decide +kernel
theorem iL_setUnits_16 (hk : k ≤ R.cells) (hs : n ≤ R.slots) (hq : Q (.inl (some (.int x))) h) : z_J Z mL_setUnits R k n Q 16 ls [.int x] h := z_iret (ty := .int) dL_setUnits_16 rfl rfl hk hs hq
def bL_setUnits_17 : zB := [(17, .astore 4, 19, nI 0), (19, .iconst 2, 20, nI 2)]
theorem bL_setUnits_17_ok : z_ok cL_setUnits 17 bL_setUnits_17 20 = true := by decide +kernel
theorem iL_setUnits_17 (hr : z_run 5 bL_setUnits_17 ls st = some (ls', st')) (g : z_J Z mL_setUnits R k n Q 20 ls' st' h) : z_J Z mL_setUnits R k n Q 17 ls st h := z_jr bL_setUnits_17 bL_setUnits_17_ok hr g
theorem dL_setUnits_20 : decode cL_setUnits 20 = .ok (.ireturn, 1) := by decide +kernel
theorem iL_setUnits_20 (hk : k ≤ R.cells) (hs : n ≤ R.slots) (hq : Q (.inl (some (.int x))) h) : z_J Z mL_setUnits R k n Q 20 ls [.int x] h := z_iret (ty := .int) dL_setUnits_20 rfl rfl hk hs hq
def bL_setUnits_21 : zB := [(21, .iconst 0, 22, nI 0)]
theorem bL_setUnits_21_ok : z_ok cL_setUnits 21 bL_setUnits_21 22 = true := by decide +kernel
theorem iL_setUnits_21 (hr : z_run 5 bL_setUnits_21 ls st = some (ls', st')) (g : z_J Z mL_setUnits R k n Q 22 ls' st' h) : z_J Z mL_setUnits R k n Q 21 ls st h := z_jr bL_setUnits_21 bL_setUnits_21_ok hr g
theorem dL_setUnits_22 : decode cL_setUnits 22 = .ok (.ireturn, 1) := by decide +kernel
theorem iL_setUnits_22 (hk : k ≤ R.cells) (hs : n ≤ R.slots) (hq : Q (.inl (some (.int x))) h) : z_J Z mL_setUnits R k n Q 22 ls [.int x] h := z_iret (ty := .int) dL_setUnits_22 rfl rfl hk hs hq
/-! L_addMachine -/
def bL_addMachine_0 : zB := [(0, .aload_n 3, 1, nI 0), (1, .iconst 0, 2, nI 0), (2, .aload_n 0, 3, nI 0), (3, .iload_n 1, 4, nI 0), (4, .iload_n 2, 5, nI 0)]
theorem bL_addMachine_0_ok : z_ok cL_addMachine 0 bL_addMachine_0 5 = true := by decide +kernel
theorem iL_addMachine_0 (hr : z_run 5 bL_addMachine_0 ls st = some (ls', st')) (g : z_J Z mL_addMachine R k n Q 5 ls' st' h) : z_J Z mL_addMachine R k n Q 0 ls st h := z_jr bL_addMachine_0 bL_addMachine_0_ok hr g
theorem dL_addMachine_5 : decode cL_addMachine 5 = .ok (.invokevirtual 26, 3) := by decide +kernel
theorem iL_addMachine_5 (ha : z_args 2 st [] = some (As, .ref b :: rest)) (hc : z_chk rest (.ref b :: As) 4 = true) (hh : h r = some (b, .inr (6, fs))) (hR : z_rm R R' 4 k n) (gc : z_J Z mX5_addMachine R' 0 0 Q' 0 (.ref b :: As) [] h) (kr : ∀ (v : Option Value) (h' : zH), Q' (.inl v) h' → z_J Z mL_addMachine R (k + R'.cells) (n + R'.slots) Q 8 ls (v.toList ++ rest) h') (kx : ∀ (E : String) (h' : zH), Q' (.inr E) h' → z_JX Z mL_addMachine R (k + R'.cells) (n + R'.slots) Q 5 ls E h') : z_J Z mL_addMachine R k n Q 5 ls st h := z_callV (M' := mX5_addMachine) dL_addMachine_5 rfl cs_L_26 rfl gw422 gw423 ha hh (ci := 6) rfl hR (z_chk1 hc) (z_chk2 hc) (z_chk3 hc) gc kr kx
def bL_addMachine_8 : zB := [(8, .i2l, 9, nI 0)]
theorem bL_addMachine_8_ok : z_ok cL_addMachine 8 bL_addMachine_8 9 = true := by decide +kernel
theorem iL_addMachine_8 (hr : z_run 5 bL_addMachine_8 ls st = some (ls', st')) (g : z_J Z mL_addMachine R k n Q 9 ls' st' h) : z_J Z mL_addMachine R k n Q 8 ls st h := z_jr bL_addMachine_8 bL_addMachine_8_ok hr g
theorem dL_addMachine_9 : decode cL_addMachine 9 = .ok (.lastore, 1) := by decide +kernel
theorem iL_addMachine_9 {f : Nat → Int64} {xl : Int64} (hh : h r = some (a, .inl (2, N, .inr (.inl f)))) (hi : i = nI j) (hj : j < N) (hN : N < 2 ^ 31) (g : z_J Z mL_addMachine R k n Q 10 ls st (z_u h r (a, .inl (2, N, .inr (.inl (vp_updL f j xl)))))) : z_J Z mL_addMachine R k n Q 9 ls (.long xl :: .int i :: .ref a :: st) h := z_last dL_addMachine_9 rfl hh hi hj hN g
def bL_addMachine_10 : zB := [(10, .goto 15, 25, nI 0)]
theorem bL_addMachine_10_ok : z_ok cL_addMachine 10 bL_addMachine_10 25 = true := by decide +kernel
theorem iL_addMachine_10 (hr : z_run 5 bL_addMachine_10 ls st = some (ls', st')) (g : z_J Z mL_addMachine R k n Q 25 ls' st' h) : z_J Z mL_addMachine R k n Q 10 ls st h := z_jr bL_addMachine_10 bL_addMachine_10_ok hr g
def bL_addMachine_13 : zB := [(13, .astore 4, 15, nI 0), (15, .iconst 1, 16, nI 1)]
theorem bL_addMachine_13_ok : z_ok cL_addMachine 13 bL_addMachine_13 16 = true := by decide +kernel
theorem iL_addMachine_13 (hr : z_run 5 bL_addMachine_13 ls st = some (ls', st')) (g : z_J Z mL_addMachine R k n Q 16 ls' st' h) : z_J Z mL_addMachine R k n Q 13 ls st h := z_jr bL_addMachine_13 bL_addMachine_13_ok hr g
theorem dL_addMachine_16 : decode cL_addMachine 16 = .ok (.ireturn, 1) := by decide +kernel
theorem iL_addMachine_16 (hk : k ≤ R.cells) (hs : n ≤ R.slots) (hq : Q (.inl (some (.int x))) h) : z_J Z mL_addMachine R k n Q 16 ls [.int x] h := z_iret (ty := .int) dL_addMachine_16 rfl rfl hk hs hq
def bL_addMachine_17 : zB := [(17, .astore 4, 19, nI 0), (19, .iconst 2, 20, nI 2)]
theorem bL_addMachine_17_ok : z_ok cL_addMachine 17 bL_addMachine_17 20 = true := by decide +kernel
theorem iL_addMachine_17 (hr : z_run 5 bL_addMachine_17 ls st = some (ls', st')) (g : z_J Z mL_addMachine R k n Q 20 ls' st' h) : z_J Z mL_addMachine R k n Q 17 ls st h := z_jr bL_addMachine_17 bL_addMachine_17_ok hr g
theorem dL_addMachine_20 : decode cL_addMachine 20 = .ok (.ireturn, 1) := by decide +kernel
theorem iL_addMachine_20 (hk : k ≤ R.cells) (hs : n ≤ R.slots) (hq : Q (.inl (some (.int x))) h) : z_J Z mL_addMachine R k n Q 20 ls [.int x] h := z_iret (ty := .int) dL_addMachine_20 rfl rfl hk hs hq
def bL_addMachine_21 : zB := [(21, .astore 4, 23, nI 0), (23, .iconst 3, 24, nI 3)]
theorem bL_addMachine_21_ok : z_ok cL_addMachine 21 bL_addMachine_21 24 = true := by decide +kernel
theorem iL_addMachine_21 (hr : z_run 5 bL_addMachine_21 ls st = some (ls', st')) (g : z_J Z mL_addMachine R k n Q 24 ls' st' h) : z_J Z mL_addMachine R k n Q 21 ls st h := z_jr bL_addMachine_21 bL_addMachine_21_ok hr g
theorem dL_addMachine_24 : decode cL_addMachine 24 = .ok (.ireturn, 1) := by decide +kernel
theorem iL_addMachine_24 (hk : k ≤ R.cells) (hs : n ≤ R.slots) (hq : Q (.inl (some (.int x))) h) : z_J Z mL_addMachine R k n Q 24 ls [.int x] h := z_iret (ty := .int) dL_addMachine_24 rfl rfl hk hs hq
def bL_addMachine_25 : zB := [(25, .iconst 0, 26, nI 0)]
theorem bL_addMachine_25_ok : z_ok cL_addMachine 25 bL_addMachine_25 26 = true := by decide +kernel
theorem iL_addMachine_25 (hr : z_run 5 bL_addMachine_25 ls st = some (ls', st')) (g : z_J Z mL_addMachine R k n Q 26 ls' st' h) : z_J Z mL_addMachine R k n Q 25 ls st h := z_jr bL_addMachine_25 bL_addMachine_25_ok hr g
theorem dL_addMachine_26 : decode cL_addMachine 26 = .ok (.ireturn, 1) := by decide +kernel
theorem iL_addMachine_26 (hk : k ≤ R.cells) (hs : n ≤ R.slots) (hq : Q (.inl (some (.int x))) h) : z_J Z mL_addMachine R k n Q 26 ls [.int x] h := z_iret (ty := .int) dL_addMachine_26 rfl rfl hk hs hq
/-! L_setCores -/
def bL_setCores_0 : zB := [(0, .aload_n 3, 1, nI 0), (1, .iconst 0, 2, nI 0), (2, .aload_n 0, 3, nI 0), (3, .iload_n 1, 4, nI 0), (4, .iload_n 2, 5, nI 0)]
theorem bL_setCores_0_ok : z_ok cL_setCores 0 bL_setCores_0 5 = true := by decide +kernel
theorem iL_setCores_0 (hr : z_run 5 bL_setCores_0 ls st = some (ls', st')) (g : z_J Z mL_setCores R k n Q 5 ls' st' h) : z_J Z mL_setCores R k n Q 0 ls st h := z_jr bL_setCores_0 bL_setCores_0_ok hr g
theorem dL_setCores_5 : decode cL_setCores 5 = .ok (.invokevirtual 29, 3) := by decide +kernel
theorem iL_setCores_5 (ha : z_args 2 st [] = some (As, .ref b :: rest)) (hc : z_chk rest (.ref b :: As) 5 = true) (hh : h r = some (b, .inr (6, fs))) (hR : z_rm R R' 5 k n) (gc : z_J Z mX5_setCores R' 0 0 Q' 0 (.ref b :: As) [] h) (kr : ∀ (v : Option Value) (h' : zH), Q' (.inl v) h' → z_J Z mL_setCores R (k + R'.cells) (n + R'.slots) Q 8 ls (v.toList ++ rest) h') (kx : ∀ (E : String) (h' : zH), Q' (.inr E) h' → z_JX Z mL_setCores R (k + R'.cells) (n + R'.slots) Q 5 ls E h') : z_J Z mL_setCores R k n Q 5 ls st h := z_callV (M' := mX5_setCores) dL_setCores_5 rfl cs_L_29 rfl gw481 gw482 ha hh (ci := 6) rfl hR (z_chk1 hc) (z_chk2 hc) (z_chk3 hc) gc kr kx
def bL_setCores_8 : zB := [(8, .i2l, 9, nI 0)]
theorem bL_setCores_8_ok : z_ok cL_setCores 8 bL_setCores_8 9 = true := by decide +kernel
theorem iL_setCores_8 (hr : z_run 5 bL_setCores_8 ls st = some (ls', st')) (g : z_J Z mL_setCores R k n Q 9 ls' st' h) : z_J Z mL_setCores R k n Q 8 ls st h := z_jr bL_setCores_8 bL_setCores_8_ok hr g
theorem dL_setCores_9 : decode cL_setCores 9 = .ok (.lastore, 1) := by decide +kernel
theorem iL_setCores_9 {f : Nat → Int64} {xl : Int64} (hh : h r = some (a, .inl (2, N, .inr (.inl f)))) (hi : i = nI j) (hj : j < N) (hN : N < 2 ^ 31) (g : z_J Z mL_setCores R k n Q 10 ls st (z_u h r (a, .inl (2, N, .inr (.inl (vp_updL f j xl)))))) : z_J Z mL_setCores R k n Q 9 ls (.long xl :: .int i :: .ref a :: st) h := z_last dL_setCores_9 rfl hh hi hj hN g
def bL_setCores_10 : zB := [(10, .goto 11, 21, nI 0)]
theorem bL_setCores_10_ok : z_ok cL_setCores 10 bL_setCores_10 21 = true := by decide +kernel
theorem iL_setCores_10 (hr : z_run 5 bL_setCores_10 ls st = some (ls', st')) (g : z_J Z mL_setCores R k n Q 21 ls' st' h) : z_J Z mL_setCores R k n Q 10 ls st h := z_jr bL_setCores_10 bL_setCores_10_ok hr g
def bL_setCores_13 : zB := [(13, .astore 4, 15, nI 0), (15, .iconst 1, 16, nI 1)]
theorem bL_setCores_13_ok : z_ok cL_setCores 13 bL_setCores_13 16 = true := by decide +kernel
theorem iL_setCores_13 (hr : z_run 5 bL_setCores_13 ls st = some (ls', st')) (g : z_J Z mL_setCores R k n Q 16 ls' st' h) : z_J Z mL_setCores R k n Q 13 ls st h := z_jr bL_setCores_13 bL_setCores_13_ok hr g
theorem dL_setCores_16 : decode cL_setCores 16 = .ok (.ireturn, 1) := by decide +kernel
theorem iL_setCores_16 (hk : k ≤ R.cells) (hs : n ≤ R.slots) (hq : Q (.inl (some (.int x))) h) : z_J Z mL_setCores R k n Q 16 ls [.int x] h := z_iret (ty := .int) dL_setCores_16 rfl rfl hk hs hq
def bL_setCores_17 : zB := [(17, .astore 4, 19, nI 0), (19, .iconst 2, 20, nI 2)]
theorem bL_setCores_17_ok : z_ok cL_setCores 17 bL_setCores_17 20 = true := by decide +kernel
theorem iL_setCores_17 (hr : z_run 5 bL_setCores_17 ls st = some (ls', st')) (g : z_J Z mL_setCores R k n Q 20 ls' st' h) : z_J Z mL_setCores R k n Q 17 ls st h := z_jr bL_setCores_17 bL_setCores_17_ok hr g
theorem dL_setCores_20 : decode cL_setCores 20 = .ok (.ireturn, 1) := by decide +kernel
theorem iL_setCores_20 (hk : k ≤ R.cells) (hs : n ≤ R.slots) (hq : Q (.inl (some (.int x))) h) : z_J Z mL_setCores R k n Q 20 ls [.int x] h := z_iret (ty := .int) dL_setCores_20 rfl rfl hk hs hq
def bL_setCores_21 : zB := [(21, .iconst 0, 22, nI 0)]
theorem bL_setCores_21_ok : z_ok cL_setCores 21 bL_setCores_21 22 = true := by decide +kernel
theorem iL_setCores_21 (hr : z_run 5 bL_setCores_21 ls st = some (ls', st')) (g : z_J Z mL_setCores R k n Q 22 ls' st' h) : z_J Z mL_setCores R k n Q 21 ls st h := z_jr bL_setCores_21 bL_setCores_21_ok hr g
theorem dL_setCores_22 : decode cL_setCores 22 = .ok (.ireturn, 1) := by decide +kernel
theorem iL_setCores_22 (hk : k ≤ R.cells) (hs : n ≤ R.slots) (hq : Q (.inl (some (.int x))) h) : z_J Z mL_setCores R k n Q 22 ls [.int x] h := z_iret (ty := .int) dL_setCores_22 rfl rfl hk hs hq
/-! L_tellApart -/
def bL_tellApart_0 : zB := [(0, .aload_n 3, 1, nI 0), (1, .iconst 0, 2, nI 0), (2, .aload_n 0, 3, nI 0), (3, .iload_n 1, 4, nI 0), (4, .iload_n 2, 5, nI 0)]
theorem bL_tellApart_0_ok : z_ok cL_tellApart 0 bL_tellApart_0 5 = true := by decide +kernel
theorem iL_tellApart_0 (hr : z_run 5 bL_tellApart_0 ls st = some (ls', st')) (g : z_J Z mL_tellApart R k n Q 5 ls' st' h) : z_J Z mL_tellApart R k n Q 0 ls st h := z_jr bL_tellApart_0 bL_tellApart_0_ok hr g
theorem dL_tellApart_5 : decode cL_tellApart 5 = .ok (.invokevirtual 32, 3) := by decide +kernel
theorem iL_tellApart_5 (ha : z_args 2 st [] = some (As, .ref b :: rest)) (hc : z_chk rest (.ref b :: As) 4 = true) (hh : h r = some (b, .inr (6, fs))) (hR : z_rm R R' 4 k n) (gc : z_J Z mX5_tellApart R' 0 0 Q' 0 (.ref b :: As) [] h) (kr : ∀ (v : Option Value) (h' : zH), Q' (.inl v) h' → z_J Z mL_tellApart R (k + R'.cells) (n + R'.slots) Q 8 ls (v.toList ++ rest) h') (kx : ∀ (E : String) (h' : zH), Q' (.inr E) h' → z_JX Z mL_tellApart R (k + R'.cells) (n + R'.slots) Q 5 ls E h') : z_J Z mL_tellApart R k n Q 5 ls st h := z_callV (M' := mX5_tellApart) dL_tellApart_5 rfl cs_L_32 rfl gw488 gw489 ha hh (ci := 6) rfl hR (z_chk1 hc) (z_chk2 hc) (z_chk3 hc) gc kr kx
def bL_tellApart_8 : zB := [(8, .i2l, 9, nI 0)]
theorem bL_tellApart_8_ok : z_ok cL_tellApart 8 bL_tellApart_8 9 = true := by decide +kernel
theorem iL_tellApart_8 (hr : z_run 5 bL_tellApart_8 ls st = some (ls', st')) (g : z_J Z mL_tellApart R k n Q 9 ls' st' h) : z_J Z mL_tellApart R k n Q 8 ls st h := z_jr bL_tellApart_8 bL_tellApart_8_ok hr g
theorem dL_tellApart_9 : decode cL_tellApart 9 = .ok (.lastore, 1) := by decide +kernel
theorem iL_tellApart_9 {f : Nat → Int64} {xl : Int64} (hh : h r = some (a, .inl (2, N, .inr (.inl f)))) (hi : i = nI j) (hj : j < N) (hN : N < 2 ^ 31) (g : z_J Z mL_tellApart R k n Q 10 ls st (z_u h r (a, .inl (2, N, .inr (.inl (vp_updL f j xl)))))) : z_J Z mL_tellApart R k n Q 9 ls (.long xl :: .int i :: .ref a :: st) h := z_last dL_tellApart_9 rfl hh hi hj hN g
def bL_tellApart_10 : zB := [(10, .goto 7, 17, nI 0)]
theorem bL_tellApart_10_ok : z_ok cL_tellApart 10 bL_tellApart_10 17 = true := by decide +kernel
theorem iL_tellApart_10 (hr : z_run 5 bL_tellApart_10 ls st = some (ls', st')) (g : z_J Z mL_tellApart R k n Q 17 ls' st' h) : z_J Z mL_tellApart R k n Q 10 ls st h := z_jr bL_tellApart_10 bL_tellApart_10_ok hr g
def bL_tellApart_13 : zB := [(13, .astore 4, 15, nI 0), (15, .iconst 1, 16, nI 1)]
theorem bL_tellApart_13_ok : z_ok cL_tellApart 13 bL_tellApart_13 16 = true := by decide +kernel
theorem iL_tellApart_13 (hr : z_run 5 bL_tellApart_13 ls st = some (ls', st')) (g : z_J Z mL_tellApart R k n Q 16 ls' st' h) : z_J Z mL_tellApart R k n Q 13 ls st h := z_jr bL_tellApart_13 bL_tellApart_13_ok hr g
theorem dL_tellApart_16 : decode cL_tellApart 16 = .ok (.ireturn, 1) := by decide +kernel
theorem iL_tellApart_16 (hk : k ≤ R.cells) (hs : n ≤ R.slots) (hq : Q (.inl (some (.int x))) h) : z_J Z mL_tellApart R k n Q 16 ls [.int x] h := z_iret (ty := .int) dL_tellApart_16 rfl rfl hk hs hq
def bL_tellApart_17 : zB := [(17, .iconst 0, 18, nI 0)]
theorem bL_tellApart_17_ok : z_ok cL_tellApart 17 bL_tellApart_17 18 = true := by decide +kernel
theorem iL_tellApart_17 (hr : z_run 5 bL_tellApart_17 ls st = some (ls', st')) (g : z_J Z mL_tellApart R k n Q 18 ls' st' h) : z_J Z mL_tellApart R k n Q 17 ls st h := z_jr bL_tellApart_17 bL_tellApart_17_ok hr g
theorem dL_tellApart_18 : decode cL_tellApart 18 = .ok (.ireturn, 1) := by decide +kernel
theorem iL_tellApart_18 (hk : k ≤ R.cells) (hs : n ≤ R.slots) (hq : Q (.inl (some (.int x))) h) : z_J Z mL_tellApart R k n Q 18 ls [.int x] h := z_iret (ty := .int) dL_tellApart_18 rfl rfl hk hs hq
/-! L_setCoresOfUnit -/
def bL_setCoresOfUnit_0 : zB := [(0, .aload_n 3, 1, nI 0), (1, .iconst 0, 2, nI 0), (2, .aload_n 0, 3, nI 0), (3, .iload_n 1, 4, nI 0), (4, .iload_n 2, 5, nI 0)]
theorem bL_setCoresOfUnit_0_ok : z_ok cL_setCoresOfUnit 0 bL_setCoresOfUnit_0 5 = true := by decide +kernel
theorem iL_setCoresOfUnit_0 (hr : z_run 5 bL_setCoresOfUnit_0 ls st = some (ls', st')) (g : z_J Z mL_setCoresOfUnit R k n Q 5 ls' st' h) : z_J Z mL_setCoresOfUnit R k n Q 0 ls st h := z_jr bL_setCoresOfUnit_0 bL_setCoresOfUnit_0_ok hr g
theorem dL_setCoresOfUnit_5 : decode cL_setCoresOfUnit 5 = .ok (.invokevirtual 36, 3) := by decide +kernel
theorem iL_setCoresOfUnit_5 (ha : z_args 2 st [] = some (As, .ref b :: rest)) (hc : z_chk rest (.ref b :: As) 4 = true) (hh : h r = some (b, .inr (6, fs))) (hR : z_rm R R' 4 k n) (gc : z_J Z mX5_setCoresOfUnit R' 0 0 Q' 0 (.ref b :: As) [] h) (kr : ∀ (v : Option Value) (h' : zH), Q' (.inl v) h' → z_J Z mL_setCoresOfUnit R (k + R'.cells) (n + R'.slots) Q 8 ls (v.toList ++ rest) h') (kx : ∀ (E : String) (h' : zH), Q' (.inr E) h' → z_JX Z mL_setCoresOfUnit R (k + R'.cells) (n + R'.slots) Q 5 ls E h') : z_J Z mL_setCoresOfUnit R k n Q 5 ls st h := z_callV (M' := mX5_setCoresOfUnit) dL_setCoresOfUnit_5 rfl cs_L_36 rfl gw499 gw500 ha hh (ci := 6) rfl hR (z_chk1 hc) (z_chk2 hc) (z_chk3 hc) gc kr kx
def bL_setCoresOfUnit_8 : zB := [(8, .i2l, 9, nI 0)]
theorem bL_setCoresOfUnit_8_ok : z_ok cL_setCoresOfUnit 8 bL_setCoresOfUnit_8 9 = true := by decide +kernel
theorem iL_setCoresOfUnit_8 (hr : z_run 5 bL_setCoresOfUnit_8 ls st = some (ls', st')) (g : z_J Z mL_setCoresOfUnit R k n Q 9 ls' st' h) : z_J Z mL_setCoresOfUnit R k n Q 8 ls st h := z_jr bL_setCoresOfUnit_8 bL_setCoresOfUnit_8_ok hr g
theorem dL_setCoresOfUnit_9 : decode cL_setCoresOfUnit 9 = .ok (.lastore, 1) := by decide +kernel
theorem iL_setCoresOfUnit_9 {f : Nat → Int64} {xl : Int64} (hh : h r = some (a, .inl (2, N, .inr (.inl f)))) (hi : i = nI j) (hj : j < N) (hN : N < 2 ^ 31) (g : z_J Z mL_setCoresOfUnit R k n Q 10 ls st (z_u h r (a, .inl (2, N, .inr (.inl (vp_updL f j xl)))))) : z_J Z mL_setCoresOfUnit R k n Q 9 ls (.long xl :: .int i :: .ref a :: st) h := z_last dL_setCoresOfUnit_9 rfl hh hi hj hN g
def bL_setCoresOfUnit_10 : zB := [(10, .goto 11, 21, nI 0)]
theorem bL_setCoresOfUnit_10_ok : z_ok cL_setCoresOfUnit 10 bL_setCoresOfUnit_10 21 = true := by decide +kernel
theorem iL_setCoresOfUnit_10 (hr : z_run 5 bL_setCoresOfUnit_10 ls st = some (ls', st')) (g : z_J Z mL_setCoresOfUnit R k n Q 21 ls' st' h) : z_J Z mL_setCoresOfUnit R k n Q 10 ls st h := z_jr bL_setCoresOfUnit_10 bL_setCoresOfUnit_10_ok hr g
def bL_setCoresOfUnit_13 : zB := [(13, .astore 4, 15, nI 0), (15, .iconst 1, 16, nI 1)]
theorem bL_setCoresOfUnit_13_ok : z_ok cL_setCoresOfUnit 13 bL_setCoresOfUnit_13 16 = true := by decide +kernel
theorem iL_setCoresOfUnit_13 (hr : z_run 5 bL_setCoresOfUnit_13 ls st = some (ls', st')) (g : z_J Z mL_setCoresOfUnit R k n Q 16 ls' st' h) : z_J Z mL_setCoresOfUnit R k n Q 13 ls st h := z_jr bL_setCoresOfUnit_13 bL_setCoresOfUnit_13_ok hr g
theorem dL_setCoresOfUnit_16 : decode cL_setCoresOfUnit 16 = .ok (.ireturn, 1) := by decide +kernel
theorem iL_setCoresOfUnit_16 (hk : k ≤ R.cells) (hs : n ≤ R.slots) (hq : Q (.inl (some (.int x))) h) : z_J Z mL_setCoresOfUnit R k n Q 16 ls [.int x] h := z_iret (ty := .int) dL_setCoresOfUnit_16 rfl rfl hk hs hq
def bL_setCoresOfUnit_17 : zB := [(17, .astore 4, 19, nI 0), (19, .iconst 2, 20, nI 2)]
theorem bL_setCoresOfUnit_17_ok : z_ok cL_setCoresOfUnit 17 bL_setCoresOfUnit_17 20 = true := by decide +kernel
theorem iL_setCoresOfUnit_17 (hr : z_run 5 bL_setCoresOfUnit_17 ls st = some (ls', st')) (g : z_J Z mL_setCoresOfUnit R k n Q 20 ls' st' h) : z_J Z mL_setCoresOfUnit R k n Q 17 ls st h := z_jr bL_setCoresOfUnit_17 bL_setCoresOfUnit_17_ok hr g
theorem dL_setCoresOfUnit_20 : decode cL_setCoresOfUnit 20 = .ok (.ireturn, 1) := by decide +kernel
theorem iL_setCoresOfUnit_20 (hk : k ≤ R.cells) (hs : n ≤ R.slots) (hq : Q (.inl (some (.int x))) h) : z_J Z mL_setCoresOfUnit R k n Q 20 ls [.int x] h := z_iret (ty := .int) dL_setCoresOfUnit_20 rfl rfl hk hs hq
def bL_setCoresOfUnit_21 : zB := [(21, .iconst 0, 22, nI 0)]
theorem bL_setCoresOfUnit_21_ok : z_ok cL_setCoresOfUnit 21 bL_setCoresOfUnit_21 22 = true := by decide +kernel
theorem iL_setCoresOfUnit_21 (hr : z_run 5 bL_setCoresOfUnit_21 ls st = some (ls', st')) (g : z_J Z mL_setCoresOfUnit R k n Q 22 ls' st' h) : z_J Z mL_setCoresOfUnit R k n Q 21 ls st h := z_jr bL_setCoresOfUnit_21 bL_setCoresOfUnit_21_ok hr g
theorem dL_setCoresOfUnit_22 : decode cL_setCoresOfUnit 22 = .ok (.ireturn, 1) := by decide +kernel
theorem iL_setCoresOfUnit_22 (hk : k ≤ R.cells) (hs : n ≤ R.slots) (hq : Q (.inl (some (.int x))) h) : z_J Z mL_setCoresOfUnit R k n Q 22 ls [.int x] h := z_iret (ty := .int) dL_setCoresOfUnit_22 rfl rfl hk hs hq
/-! L_install -/
def bL_install_0 : zB := [(0, .aload 5, 2, nI 0), (2, .iconst 0, 3, nI 0), (3, .aload_n 0, 4, nI 0), (4, .iload_n 1, 5, nI 0), (5, .iload_n 2, 6, nI 0), (6, .iload_n 3, 7, nI 0), (7, .iload 4, 9, nI 0)]
theorem bL_install_0_ok : z_ok cL_install 0 bL_install_0 9 = true := by decide +kernel
theorem iL_install_0 (hr : z_run 7 bL_install_0 ls st = some (ls', st')) (g : z_J Z mL_install R k n Q 9 ls' st' h) : z_J Z mL_install R k n Q 0 ls st h := z_jr bL_install_0 bL_install_0_ok hr g
theorem dL_install_9 : decode cL_install 9 = .ok (.invokevirtual 39, 3) := by decide +kernel
theorem iL_install_9 (ha : z_args 4 st [] = some (As, .ref b :: rest)) (hc : z_chk rest (.ref b :: As) 6 = true) (hh : h r = some (b, .inr (6, fs))) (hR : z_rm R R' 6 k n) (gc : z_J Z mX5_install R' 0 0 Q' 0 (.ref b :: As) [] h) (kr : ∀ (v : Option Value) (h' : zH), Q' (.inl v) h' → z_J Z mL_install R (k + R'.cells) (n + R'.slots) Q 12 ls (v.toList ++ rest) h') (kx : ∀ (E : String) (h' : zH), Q' (.inr E) h' → z_JX Z mL_install R (k + R'.cells) (n + R'.slots) Q 9 ls E h') : z_J Z mL_install R k n Q 9 ls st h := z_callV (M' := mX5_install) dL_install_9 rfl cs_L_39 rfl gw510 gw511 ha hh (ci := 6) rfl hR (z_chk1 hc) (z_chk2 hc) (z_chk3 hc) gc kr kx
def bL_install_12 : zB := [(12, .i2l, 13, nI 0)]
theorem bL_install_12_ok : z_ok cL_install 12 bL_install_12 13 = true := by decide +kernel
theorem iL_install_12 (hr : z_run 7 bL_install_12 ls st = some (ls', st')) (g : z_J Z mL_install R k n Q 13 ls' st' h) : z_J Z mL_install R k n Q 12 ls st h := z_jr bL_install_12 bL_install_12_ok hr g
theorem dL_install_13 : decode cL_install 13 = .ok (.lastore, 1) := by decide +kernel
theorem iL_install_13 {f : Nat → Int64} {xl : Int64} (hh : h r = some (a, .inl (2, N, .inr (.inl f)))) (hi : i = nI j) (hj : j < N) (hN : N < 2 ^ 31) (g : z_J Z mL_install R k n Q 14 ls st (z_u h r (a, .inl (2, N, .inr (.inl (vp_updL f j xl)))))) : z_J Z mL_install R k n Q 13 ls (.long xl :: .int i :: .ref a :: st) h := z_last dL_install_13 rfl hh hi hj hN g
def bL_install_14 : zB := [(14, .goto 15, 29, nI 0)]
theorem bL_install_14_ok : z_ok cL_install 14 bL_install_14 29 = true := by decide +kernel
theorem iL_install_14 (hr : z_run 7 bL_install_14 ls st = some (ls', st')) (g : z_J Z mL_install R k n Q 29 ls' st' h) : z_J Z mL_install R k n Q 14 ls st h := z_jr bL_install_14 bL_install_14_ok hr g
def bL_install_17 : zB := [(17, .astore 6, 19, nI 0), (19, .iconst 1, 20, nI 1)]
theorem bL_install_17_ok : z_ok cL_install 17 bL_install_17 20 = true := by decide +kernel
theorem iL_install_17 (hr : z_run 7 bL_install_17 ls st = some (ls', st')) (g : z_J Z mL_install R k n Q 20 ls' st' h) : z_J Z mL_install R k n Q 17 ls st h := z_jr bL_install_17 bL_install_17_ok hr g
theorem dL_install_20 : decode cL_install 20 = .ok (.ireturn, 1) := by decide +kernel
theorem iL_install_20 (hk : k ≤ R.cells) (hs : n ≤ R.slots) (hq : Q (.inl (some (.int x))) h) : z_J Z mL_install R k n Q 20 ls [.int x] h := z_iret (ty := .int) dL_install_20 rfl rfl hk hs hq
def bL_install_21 : zB := [(21, .astore 6, 23, nI 0), (23, .iconst 2, 24, nI 2)]
theorem bL_install_21_ok : z_ok cL_install 21 bL_install_21 24 = true := by decide +kernel
theorem iL_install_21 (hr : z_run 7 bL_install_21 ls st = some (ls', st')) (g : z_J Z mL_install R k n Q 24 ls' st' h) : z_J Z mL_install R k n Q 21 ls st h := z_jr bL_install_21 bL_install_21_ok hr g
theorem dL_install_24 : decode cL_install 24 = .ok (.ireturn, 1) := by decide +kernel
theorem iL_install_24 (hk : k ≤ R.cells) (hs : n ≤ R.slots) (hq : Q (.inl (some (.int x))) h) : z_J Z mL_install R k n Q 24 ls [.int x] h := z_iret (ty := .int) dL_install_24 rfl rfl hk hs hq
def bL_install_25 : zB := [(25, .astore 6, 27, nI 0), (27, .iconst 3, 28, nI 3)]
theorem bL_install_25_ok : z_ok cL_install 25 bL_install_25 28 = true := by decide +kernel
theorem iL_install_25 (hr : z_run 7 bL_install_25 ls st = some (ls', st')) (g : z_J Z mL_install R k n Q 28 ls' st' h) : z_J Z mL_install R k n Q 25 ls st h := z_jr bL_install_25 bL_install_25_ok hr g
theorem dL_install_28 : decode cL_install 28 = .ok (.ireturn, 1) := by decide +kernel
theorem iL_install_28 (hk : k ≤ R.cells) (hs : n ≤ R.slots) (hq : Q (.inl (some (.int x))) h) : z_J Z mL_install R k n Q 28 ls [.int x] h := z_iret (ty := .int) dL_install_28 rfl rfl hk hs hq
def bL_install_29 : zB := [(29, .iconst 0, 30, nI 0)]
theorem bL_install_29_ok : z_ok cL_install 29 bL_install_29 30 = true := by decide +kernel
theorem iL_install_29 (hr : z_run 7 bL_install_29 ls st = some (ls', st')) (g : z_J Z mL_install R k n Q 30 ls' st' h) : z_J Z mL_install R k n Q 29 ls st h := z_jr bL_install_29 bL_install_29_ok hr g
theorem dL_install_30 : decode cL_install 30 = .ok (.ireturn, 1) := by decide +kernel
theorem iL_install_30 (hk : k ≤ R.cells) (hs : n ≤ R.slots) (hq : Q (.inl (some (.int x))) h) : z_J Z mL_install R k n Q 30 ls [.int x] h := z_iret (ty := .int) dL_install_30 rfl rfl hk hs hq
/-! L_uninstall -/
def bL_uninstall_0 : zB := [(0, .aload 4, 2, nI 0), (2, .iconst 0, 3, nI 0), (3, .aload_n 0, 4, nI 0), (4, .iload_n 1, 5, nI 0), (5, .iload_n 2, 6, nI 0), (6, .iload_n 3, 7, nI 0)]
theorem bL_uninstall_0_ok : z_ok cL_uninstall 0 bL_uninstall_0 7 = true := by decide +kernel
theorem iL_uninstall_0 (hr : z_run 6 bL_uninstall_0 ls st = some (ls', st')) (g : z_J Z mL_uninstall R k n Q 7 ls' st' h) : z_J Z mL_uninstall R k n Q 0 ls st h := z_jr bL_uninstall_0 bL_uninstall_0_ok hr g
theorem dL_uninstall_7 : decode cL_uninstall 7 = .ok (.invokevirtual 43, 3) := by decide +kernel
theorem iL_uninstall_7 (ha : z_args 3 st [] = some (As, .ref b :: rest)) (hc : z_chk rest (.ref b :: As) 5 = true) (hh : h r = some (b, .inr (6, fs))) (hR : z_rm R R' 5 k n) (gc : z_J Z mX5_uninstall R' 0 0 Q' 0 (.ref b :: As) [] h) (kr : ∀ (v : Option Value) (h' : zH), Q' (.inl v) h' → z_J Z mL_uninstall R (k + R'.cells) (n + R'.slots) Q 10 ls (v.toList ++ rest) h') (kx : ∀ (E : String) (h' : zH), Q' (.inr E) h' → z_JX Z mL_uninstall R (k + R'.cells) (n + R'.slots) Q 7 ls E h') : z_J Z mL_uninstall R k n Q 7 ls st h := z_callV (M' := mX5_uninstall) dL_uninstall_7 rfl cs_L_43 rfl gw542 gw543 ha hh (ci := 6) rfl hR (z_chk1 hc) (z_chk2 hc) (z_chk3 hc) gc kr kx
def bL_uninstall_10 : zB := [(10, .i2l, 11, nI 0)]
theorem bL_uninstall_10_ok : z_ok cL_uninstall 10 bL_uninstall_10 11 = true := by decide +kernel
theorem iL_uninstall_10 (hr : z_run 6 bL_uninstall_10 ls st = some (ls', st')) (g : z_J Z mL_uninstall R k n Q 11 ls' st' h) : z_J Z mL_uninstall R k n Q 10 ls st h := z_jr bL_uninstall_10 bL_uninstall_10_ok hr g
theorem dL_uninstall_11 : decode cL_uninstall 11 = .ok (.lastore, 1) := by decide +kernel
theorem iL_uninstall_11 {f : Nat → Int64} {xl : Int64} (hh : h r = some (a, .inl (2, N, .inr (.inl f)))) (hi : i = nI j) (hj : j < N) (hN : N < 2 ^ 31) (g : z_J Z mL_uninstall R k n Q 12 ls st (z_u h r (a, .inl (2, N, .inr (.inl (vp_updL f j xl)))))) : z_J Z mL_uninstall R k n Q 11 ls (.long xl :: .int i :: .ref a :: st) h := z_last dL_uninstall_11 rfl hh hi hj hN g
def bL_uninstall_12 : zB := [(12, .goto 15, 27, nI 0)]
theorem bL_uninstall_12_ok : z_ok cL_uninstall 12 bL_uninstall_12 27 = true := by decide +kernel
theorem iL_uninstall_12 (hr : z_run 6 bL_uninstall_12 ls st = some (ls', st')) (g : z_J Z mL_uninstall R k n Q 27 ls' st' h) : z_J Z mL_uninstall R k n Q 12 ls st h := z_jr bL_uninstall_12 bL_uninstall_12_ok hr g
def bL_uninstall_15 : zB := [(15, .astore 5, 17, nI 0), (17, .iconst 1, 18, nI 1)]
theorem bL_uninstall_15_ok : z_ok cL_uninstall 15 bL_uninstall_15 18 = true := by decide +kernel
theorem iL_uninstall_15 (hr : z_run 6 bL_uninstall_15 ls st = some (ls', st')) (g : z_J Z mL_uninstall R k n Q 18 ls' st' h) : z_J Z mL_uninstall R k n Q 15 ls st h := z_jr bL_uninstall_15 bL_uninstall_15_ok hr g
theorem dL_uninstall_18 : decode cL_uninstall 18 = .ok (.ireturn, 1) := by decide +kernel
theorem iL_uninstall_18 (hk : k ≤ R.cells) (hs : n ≤ R.slots) (hq : Q (.inl (some (.int x))) h) : z_J Z mL_uninstall R k n Q 18 ls [.int x] h := z_iret (ty := .int) dL_uninstall_18 rfl rfl hk hs hq
def bL_uninstall_19 : zB := [(19, .astore 5, 21, nI 0), (21, .iconst 2, 22, nI 2)]
theorem bL_uninstall_19_ok : z_ok cL_uninstall 19 bL_uninstall_19 22 = true := by decide +kernel
theorem iL_uninstall_19 (hr : z_run 6 bL_uninstall_19 ls st = some (ls', st')) (g : z_J Z mL_uninstall R k n Q 22 ls' st' h) : z_J Z mL_uninstall R k n Q 19 ls st h := z_jr bL_uninstall_19 bL_uninstall_19_ok hr g
theorem dL_uninstall_22 : decode cL_uninstall 22 = .ok (.ireturn, 1) := by decide +kernel
theorem iL_uninstall_22 (hk : k ≤ R.cells) (hs : n ≤ R.slots) (hq : Q (.inl (some (.int x))) h) : z_J Z mL_uninstall R k n Q 22 ls [.int x] h := z_iret (ty := .int) dL_uninstall_22 rfl rfl hk hs hq
def bL_uninstall_23 : zB := [(23, .astore 5, 25, nI 0), (25, .iconst 3, 26, nI 3)]
theorem bL_uninstall_23_ok : z_ok cL_uninstall 23 bL_uninstall_23 26 = true := by decide +kernel
theorem iL_uninstall_23 (hr : z_run 6 bL_uninstall_23 ls st = some (ls', st')) (g : z_J Z mL_uninstall R k n Q 26 ls' st' h) : z_J Z mL_uninstall R k n Q 23 ls st h := z_jr bL_uninstall_23 bL_uninstall_23_ok hr g
theorem dL_uninstall_26 : decode cL_uninstall 26 = .ok (.ireturn, 1) := by decide +kernel
theorem iL_uninstall_26 (hk : k ≤ R.cells) (hs : n ≤ R.slots) (hq : Q (.inl (some (.int x))) h) : z_J Z mL_uninstall R k n Q 26 ls [.int x] h := z_iret (ty := .int) dL_uninstall_26 rfl rfl hk hs hq
def bL_uninstall_27 : zB := [(27, .iconst 0, 28, nI 0)]
theorem bL_uninstall_27_ok : z_ok cL_uninstall 27 bL_uninstall_27 28 = true := by decide +kernel
theorem iL_uninstall_27 (hr : z_run 6 bL_uninstall_27 ls st = some (ls', st')) (g : z_J Z mL_uninstall R k n Q 28 ls' st' h) : z_J Z mL_uninstall R k n Q 27 ls st h := z_jr bL_uninstall_27 bL_uninstall_27_ok hr g
theorem dL_uninstall_28 : decode cL_uninstall 28 = .ok (.ireturn, 1) := by decide +kernel
theorem iL_uninstall_28 (hk : k ≤ R.cells) (hs : n ≤ R.slots) (hq : Q (.inl (some (.int x))) h) : z_J Z mL_uninstall R k n Q 28 ls [.int x] h := z_iret (ty := .int) dL_uninstall_28 rfl rfl hk hs hq
/-! L_runs -/
def bL_runs_0 : zB := [(0, .aload 4, 2, nI 0), (2, .iconst 0, 3, nI 0), (3, .aload_n 0, 4, nI 0), (4, .iload_n 1, 5, nI 0), (5, .iload_n 2, 6, nI 0), (6, .iload_n 3, 7, nI 0)]
theorem bL_runs_0_ok : z_ok cL_runs 0 bL_runs_0 7 = true := by decide +kernel
theorem iL_runs_0 (hr : z_run 6 bL_runs_0 ls st = some (ls', st')) (g : z_J Z mL_runs R k n Q 7 ls' st' h) : z_J Z mL_runs R k n Q 0 ls st h := z_jr bL_runs_0 bL_runs_0_ok hr g
theorem dL_runs_7 : decode cL_runs 7 = .ok (.invokevirtual 47, 3) := by decide +kernel
theorem iL_runs_7 (ha : z_args 3 st [] = some (As, .ref b :: rest)) (hc : z_chk rest (.ref b :: As) 5 = true) (hh : h r = some (b, .inr (6, fs))) (hR : z_rm R R' 5 k n) (gc : z_J Z mX5_runs R' 0 0 Q' 0 (.ref b :: As) [] h) (kr : ∀ (v : Option Value) (h' : zH), Q' (.inl v) h' → z_J Z mL_runs R (k + R'.cells) (n + R'.slots) Q 10 ls (v.toList ++ rest) h') (kx : ∀ (E : String) (h' : zH), Q' (.inr E) h' → z_JX Z mL_runs R (k + R'.cells) (n + R'.slots) Q 7 ls E h') : z_J Z mL_runs R k n Q 7 ls st h := z_callV (M' := mX5_runs) dL_runs_7 rfl cs_L_47 rfl gw555 gw556 ha hh (ci := 6) rfl hR (z_chk1 hc) (z_chk2 hc) (z_chk3 hc) gc kr kx
def bL_runs_10 : zB := [(10, .i2l, 11, nI 0)]
theorem bL_runs_10_ok : z_ok cL_runs 10 bL_runs_10 11 = true := by decide +kernel
theorem iL_runs_10 (hr : z_run 6 bL_runs_10 ls st = some (ls', st')) (g : z_J Z mL_runs R k n Q 11 ls' st' h) : z_J Z mL_runs R k n Q 10 ls st h := z_jr bL_runs_10 bL_runs_10_ok hr g
theorem dL_runs_11 : decode cL_runs 11 = .ok (.lastore, 1) := by decide +kernel
theorem iL_runs_11 {f : Nat → Int64} {xl : Int64} (hh : h r = some (a, .inl (2, N, .inr (.inl f)))) (hi : i = nI j) (hj : j < N) (hN : N < 2 ^ 31) (g : z_J Z mL_runs R k n Q 12 ls st (z_u h r (a, .inl (2, N, .inr (.inl (vp_updL f j xl)))))) : z_J Z mL_runs R k n Q 11 ls (.long xl :: .int i :: .ref a :: st) h := z_last dL_runs_11 rfl hh hi hj hN g
def bL_runs_12 : zB := [(12, .goto 11, 23, nI 0)]
theorem bL_runs_12_ok : z_ok cL_runs 12 bL_runs_12 23 = true := by decide +kernel
theorem iL_runs_12 (hr : z_run 6 bL_runs_12 ls st = some (ls', st')) (g : z_J Z mL_runs R k n Q 23 ls' st' h) : z_J Z mL_runs R k n Q 12 ls st h := z_jr bL_runs_12 bL_runs_12_ok hr g
def bL_runs_15 : zB := [(15, .astore 5, 17, nI 0), (17, .iconst 1, 18, nI 1)]
theorem bL_runs_15_ok : z_ok cL_runs 15 bL_runs_15 18 = true := by decide +kernel
theorem iL_runs_15 (hr : z_run 6 bL_runs_15 ls st = some (ls', st')) (g : z_J Z mL_runs R k n Q 18 ls' st' h) : z_J Z mL_runs R k n Q 15 ls st h := z_jr bL_runs_15 bL_runs_15_ok hr g
theorem dL_runs_18 : decode cL_runs 18 = .ok (.ireturn, 1) := by decide +kernel
theorem iL_runs_18 (hk : k ≤ R.cells) (hs : n ≤ R.slots) (hq : Q (.inl (some (.int x))) h) : z_J Z mL_runs R k n Q 18 ls [.int x] h := z_iret (ty := .int) dL_runs_18 rfl rfl hk hs hq
def bL_runs_19 : zB := [(19, .astore 5, 21, nI 0), (21, .iconst 2, 22, nI 2)]
theorem bL_runs_19_ok : z_ok cL_runs 19 bL_runs_19 22 = true := by decide +kernel
theorem iL_runs_19 (hr : z_run 6 bL_runs_19 ls st = some (ls', st')) (g : z_J Z mL_runs R k n Q 22 ls' st' h) : z_J Z mL_runs R k n Q 19 ls st h := z_jr bL_runs_19 bL_runs_19_ok hr g
theorem dL_runs_22 : decode cL_runs 22 = .ok (.ireturn, 1) := by decide +kernel
theorem iL_runs_22 (hk : k ≤ R.cells) (hs : n ≤ R.slots) (hq : Q (.inl (some (.int x))) h) : z_J Z mL_runs R k n Q 22 ls [.int x] h := z_iret (ty := .int) dL_runs_22 rfl rfl hk hs hq
def bL_runs_23 : zB := [(23, .iconst 0, 24, nI 0)]
theorem bL_runs_23_ok : z_ok cL_runs 23 bL_runs_23 24 = true := by decide +kernel
theorem iL_runs_23 (hr : z_run 6 bL_runs_23 ls st = some (ls', st')) (g : z_J Z mL_runs R k n Q 24 ls' st' h) : z_J Z mL_runs R k n Q 23 ls st h := z_jr bL_runs_23 bL_runs_23_ok hr g
theorem dL_runs_24 : decode cL_runs 24 = .ok (.ireturn, 1) := by decide +kernel
theorem iL_runs_24 (hk : k ≤ R.cells) (hs : n ≤ R.slots) (hq : Q (.inl (some (.int x))) h) : z_J Z mL_runs R k n Q 24 ls [.int x] h := z_iret (ty := .int) dL_runs_24 rfl rfl hk hs hq
/-! L_needs -/
def bL_needs_0 : zB := [(0, .aload_n 2, 1, nI 0), (1, .iconst 0, 2, nI 0), (2, .aload_n 0, 3, nI 0), (3, .iload_n 1, 4, nI 0)]
theorem bL_needs_0_ok : z_ok cL_needs 0 bL_needs_0 4 = true := by decide +kernel
theorem iL_needs_0 (hr : z_run 4 bL_needs_0 ls st = some (ls', st')) (g : z_J Z mL_needs R k n Q 4 ls' st' h) : z_J Z mL_needs R k n Q 0 ls st h := z_jr bL_needs_0 bL_needs_0_ok hr g
theorem dL_needs_4 : decode cL_needs 4 = .ok (.invokevirtual 50, 3) := by decide +kernel
theorem iL_needs_4 (ha : z_args 1 st [] = some (As, .ref b :: rest)) (hc : z_chk rest (.ref b :: As) 2 = true) (hh : h r = some (b, .inr (6, fs))) (hR : z_rm R R' 2 k n) (gc : z_J Z mX5_needs R' 0 0 Q' 0 (.ref b :: As) [] h) (kr : ∀ (v : Option Value) (h' : zH), Q' (.inl v) h' → z_J Z mL_needs R (k + R'.cells) (n + R'.slots) Q 7 ls (v.toList ++ rest) h') (kx : ∀ (E : String) (h' : zH), Q' (.inr E) h' → z_JX Z mL_needs R (k + R'.cells) (n + R'.slots) Q 4 ls E h') : z_J Z mL_needs R k n Q 4 ls st h := z_callV (M' := mX5_needs) dL_needs_4 rfl cs_L_50 rfl gw566 gw567 ha hh (ci := 6) rfl hR (z_chk1 hc) (z_chk2 hc) (z_chk3 hc) gc kr kx
def bL_needs_7 : zB := [(7, .i2l, 8, nI 0)]
theorem bL_needs_7_ok : z_ok cL_needs 7 bL_needs_7 8 = true := by decide +kernel
theorem iL_needs_7 (hr : z_run 4 bL_needs_7 ls st = some (ls', st')) (g : z_J Z mL_needs R k n Q 8 ls' st' h) : z_J Z mL_needs R k n Q 7 ls st h := z_jr bL_needs_7 bL_needs_7_ok hr g
theorem dL_needs_8 : decode cL_needs 8 = .ok (.lastore, 1) := by decide +kernel
theorem iL_needs_8 {f : Nat → Int64} {xl : Int64} (hh : h r = some (a, .inl (2, N, .inr (.inl f)))) (hi : i = nI j) (hj : j < N) (hN : N < 2 ^ 31) (g : z_J Z mL_needs R k n Q 9 ls st (z_u h r (a, .inl (2, N, .inr (.inl (vp_updL f j xl)))))) : z_J Z mL_needs R k n Q 8 ls (.long xl :: .int i :: .ref a :: st) h := z_last dL_needs_8 rfl hh hi hj hN g
def bL_needs_9 : zB := [(9, .goto 6, 15, nI 0)]
theorem bL_needs_9_ok : z_ok cL_needs 9 bL_needs_9 15 = true := by decide +kernel
theorem iL_needs_9 (hr : z_run 4 bL_needs_9 ls st = some (ls', st')) (g : z_J Z mL_needs R k n Q 15 ls' st' h) : z_J Z mL_needs R k n Q 9 ls st h := z_jr bL_needs_9 bL_needs_9_ok hr g
def bL_needs_12 : zB := [(12, .astore_n 3, 13, nI 0), (13, .iconst 1, 14, nI 1)]
theorem bL_needs_12_ok : z_ok cL_needs 12 bL_needs_12 14 = true := by decide +kernel
theorem iL_needs_12 (hr : z_run 4 bL_needs_12 ls st = some (ls', st')) (g : z_J Z mL_needs R k n Q 14 ls' st' h) : z_J Z mL_needs R k n Q 12 ls st h := z_jr bL_needs_12 bL_needs_12_ok hr g
theorem dL_needs_14 : decode cL_needs 14 = .ok (.ireturn, 1) := by decide +kernel
theorem iL_needs_14 (hk : k ≤ R.cells) (hs : n ≤ R.slots) (hq : Q (.inl (some (.int x))) h) : z_J Z mL_needs R k n Q 14 ls [.int x] h := z_iret (ty := .int) dL_needs_14 rfl rfl hk hs hq
def bL_needs_15 : zB := [(15, .iconst 0, 16, nI 0)]
theorem bL_needs_15_ok : z_ok cL_needs 15 bL_needs_15 16 = true := by decide +kernel
theorem iL_needs_15 (hr : z_run 4 bL_needs_15 ls st = some (ls', st')) (g : z_J Z mL_needs R k n Q 16 ls' st' h) : z_J Z mL_needs R k n Q 15 ls st h := z_jr bL_needs_15 bL_needs_15_ok hr g
theorem dL_needs_16 : decode cL_needs 16 = .ok (.ireturn, 1) := by decide +kernel
theorem iL_needs_16 (hk : k ≤ R.cells) (hs : n ≤ R.slots) (hq : Q (.inl (some (.int x))) h) : z_J Z mL_needs R k n Q 16 ls [.int x] h := z_iret (ty := .int) dL_needs_16 rfl rfl hk hs hq
/-! L_need -/
def bL_need_0 : zB := [(0, .aload_n 3, 1, nI 0), (1, .iconst 0, 2, nI 0), (2, .aload_n 0, 3, nI 0), (3, .iload_n 1, 4, nI 0), (4, .iload_n 2, 5, nI 0)]
theorem bL_need_0_ok : z_ok cL_need 0 bL_need_0 5 = true := by decide +kernel
theorem iL_need_0 (hr : z_run 5 bL_need_0 ls st = some (ls', st')) (g : z_J Z mL_need R k n Q 5 ls' st' h) : z_J Z mL_need R k n Q 0 ls st h := z_jr bL_need_0 bL_need_0_ok hr g
theorem dL_need_5 : decode cL_need 5 = .ok (.invokevirtual 54, 3) := by decide +kernel
theorem iL_need_5 (ha : z_args 2 st [] = some (As, .ref b :: rest)) (hc : z_chk rest (.ref b :: As) 3 = true) (hh : h r = some (b, .inr (6, fs))) (hR : z_rm R R' 3 k n) (gc : z_J Z mX5_need R' 0 0 Q' 0 (.ref b :: As) [] h) (kr : ∀ (v : Option Value) (h' : zH), Q' (.inl v) h' → z_J Z mL_need R (k + R'.cells) (n + R'.slots) Q 8 ls (v.toList ++ rest) h') (kx : ∀ (E : String) (h' : zH), Q' (.inr E) h' → z_JX Z mL_need R (k + R'.cells) (n + R'.slots) Q 5 ls E h') : z_J Z mL_need R k n Q 5 ls st h := z_callV (M' := mX5_need) dL_need_5 rfl cs_L_54 rfl gw594 gw595 ha hh (ci := 6) rfl hR (z_chk1 hc) (z_chk2 hc) (z_chk3 hc) gc kr kx
def bL_need_8 : zB := [(8, .i2l, 9, nI 0)]
theorem bL_need_8_ok : z_ok cL_need 8 bL_need_8 9 = true := by decide +kernel
theorem iL_need_8 (hr : z_run 5 bL_need_8 ls st = some (ls', st')) (g : z_J Z mL_need R k n Q 9 ls' st' h) : z_J Z mL_need R k n Q 8 ls st h := z_jr bL_need_8 bL_need_8_ok hr g
theorem dL_need_9 : decode cL_need 9 = .ok (.lastore, 1) := by decide +kernel
theorem iL_need_9 {f : Nat → Int64} {xl : Int64} (hh : h r = some (a, .inl (2, N, .inr (.inl f)))) (hi : i = nI j) (hj : j < N) (hN : N < 2 ^ 31) (g : z_J Z mL_need R k n Q 10 ls st (z_u h r (a, .inl (2, N, .inr (.inl (vp_updL f j xl)))))) : z_J Z mL_need R k n Q 9 ls (.long xl :: .int i :: .ref a :: st) h := z_last dL_need_9 rfl hh hi hj hN g
def bL_need_10 : zB := [(10, .goto 11, 21, nI 0)]
theorem bL_need_10_ok : z_ok cL_need 10 bL_need_10 21 = true := by decide +kernel
theorem iL_need_10 (hr : z_run 5 bL_need_10 ls st = some (ls', st')) (g : z_J Z mL_need R k n Q 21 ls' st' h) : z_J Z mL_need R k n Q 10 ls st h := z_jr bL_need_10 bL_need_10_ok hr g
def bL_need_13 : zB := [(13, .astore 4, 15, nI 0), (15, .iconst 1, 16, nI 1)]
theorem bL_need_13_ok : z_ok cL_need 13 bL_need_13 16 = true := by decide +kernel
theorem iL_need_13 (hr : z_run 5 bL_need_13 ls st = some (ls', st')) (g : z_J Z mL_need R k n Q 16 ls' st' h) : z_J Z mL_need R k n Q 13 ls st h := z_jr bL_need_13 bL_need_13_ok hr g
theorem dL_need_16 : decode cL_need 16 = .ok (.ireturn, 1) := by decide +kernel
theorem iL_need_16 (hk : k ≤ R.cells) (hs : n ≤ R.slots) (hq : Q (.inl (some (.int x))) h) : z_J Z mL_need R k n Q 16 ls [.int x] h := z_iret (ty := .int) dL_need_16 rfl rfl hk hs hq
def bL_need_17 : zB := [(17, .astore 4, 19, nI 0), (19, .iconst 2, 20, nI 2)]
theorem bL_need_17_ok : z_ok cL_need 17 bL_need_17 20 = true := by decide +kernel
theorem iL_need_17 (hr : z_run 5 bL_need_17 ls st = some (ls', st')) (g : z_J Z mL_need R k n Q 20 ls' st' h) : z_J Z mL_need R k n Q 17 ls st h := z_jr bL_need_17 bL_need_17_ok hr g
theorem dL_need_20 : decode cL_need 20 = .ok (.ireturn, 1) := by decide +kernel
theorem iL_need_20 (hk : k ≤ R.cells) (hs : n ≤ R.slots) (hq : Q (.inl (some (.int x))) h) : z_J Z mL_need R k n Q 20 ls [.int x] h := z_iret (ty := .int) dL_need_20 rfl rfl hk hs hq
def bL_need_21 : zB := [(21, .iconst 0, 22, nI 0)]
theorem bL_need_21_ok : z_ok cL_need 21 bL_need_21 22 = true := by decide +kernel
theorem iL_need_21 (hr : z_run 5 bL_need_21 ls st = some (ls', st')) (g : z_J Z mL_need R k n Q 22 ls' st' h) : z_J Z mL_need R k n Q 21 ls st h := z_jr bL_need_21 bL_need_21_ok hr g
theorem dL_need_22 : decode cL_need 22 = .ok (.ireturn, 1) := by decide +kernel
theorem iL_need_22 (hk : k ≤ R.cells) (hs : n ≤ R.slots) (hq : Q (.inl (some (.int x))) h) : z_J Z mL_need R k n Q 22 ls [.int x] h := z_iret (ty := .int) dL_need_22 rfl rfl hk hs hq
/-! L_demand -/
def bL_demand_0 : zB := [(0, .aload_n 3, 1, nI 0), (1, .iconst 0, 2, nI 0), (2, .aload_n 0, 3, nI 0), (3, .iload_n 1, 4, nI 0), (4, .iload_n 2, 5, nI 0)]
theorem bL_demand_0_ok : z_ok cL_demand 0 bL_demand_0 5 = true := by decide +kernel
theorem iL_demand_0 (hr : z_run 5 bL_demand_0 ls st = some (ls', st')) (g : z_J Z mL_demand R k n Q 5 ls' st' h) : z_J Z mL_demand R k n Q 0 ls st h := z_jr bL_demand_0 bL_demand_0_ok hr g
theorem dL_demand_5 : decode cL_demand 5 = .ok (.invokevirtual 57, 3) := by decide +kernel
theorem iL_demand_5 (ha : z_args 2 st [] = some (As, .ref b :: rest)) (hc : z_chk rest (.ref b :: As) 3 = true) (hh : h r = some (b, .inr (6, fs))) (hR : z_rm R R' 3 k n) (gc : z_J Z mX5_demand R' 0 0 Q' 0 (.ref b :: As) [] h) (kr : ∀ (v : Option Value) (h' : zH), Q' (.inl v) h' → z_J Z mL_demand R (k + R'.cells) (n + R'.slots) Q 8 ls (v.toList ++ rest) h') (kx : ∀ (E : String) (h' : zH), Q' (.inr E) h' → z_JX Z mL_demand R (k + R'.cells) (n + R'.slots) Q 5 ls E h') : z_J Z mL_demand R k n Q 5 ls st h := z_callV (M' := mX5_demand) dL_demand_5 rfl cs_L_57 rfl gw606 gw607 ha hh (ci := 6) rfl hR (z_chk1 hc) (z_chk2 hc) (z_chk3 hc) gc kr kx
def bL_demand_8 : zB := [(8, .i2l, 9, nI 0)]
theorem bL_demand_8_ok : z_ok cL_demand 8 bL_demand_8 9 = true := by decide +kernel
theorem iL_demand_8 (hr : z_run 5 bL_demand_8 ls st = some (ls', st')) (g : z_J Z mL_demand R k n Q 9 ls' st' h) : z_J Z mL_demand R k n Q 8 ls st h := z_jr bL_demand_8 bL_demand_8_ok hr g
theorem dL_demand_9 : decode cL_demand 9 = .ok (.lastore, 1) := by decide +kernel
theorem iL_demand_9 {f : Nat → Int64} {xl : Int64} (hh : h r = some (a, .inl (2, N, .inr (.inl f)))) (hi : i = nI j) (hj : j < N) (hN : N < 2 ^ 31) (g : z_J Z mL_demand R k n Q 10 ls st (z_u h r (a, .inl (2, N, .inr (.inl (vp_updL f j xl)))))) : z_J Z mL_demand R k n Q 9 ls (.long xl :: .int i :: .ref a :: st) h := z_last dL_demand_9 rfl hh hi hj hN g
def bL_demand_10 : zB := [(10, .goto 11, 21, nI 0)]
theorem bL_demand_10_ok : z_ok cL_demand 10 bL_demand_10 21 = true := by decide +kernel
theorem iL_demand_10 (hr : z_run 5 bL_demand_10 ls st = some (ls', st')) (g : z_J Z mL_demand R k n Q 21 ls' st' h) : z_J Z mL_demand R k n Q 10 ls st h := z_jr bL_demand_10 bL_demand_10_ok hr g
def bL_demand_13 : zB := [(13, .astore 4, 15, nI 0), (15, .iconst 1, 16, nI 1)]
theorem bL_demand_13_ok : z_ok cL_demand 13 bL_demand_13 16 = true := by decide +kernel
theorem iL_demand_13 (hr : z_run 5 bL_demand_13 ls st = some (ls', st')) (g : z_J Z mL_demand R k n Q 16 ls' st' h) : z_J Z mL_demand R k n Q 13 ls st h := z_jr bL_demand_13 bL_demand_13_ok hr g
theorem dL_demand_16 : decode cL_demand 16 = .ok (.ireturn, 1) := by decide +kernel
theorem iL_demand_16 (hk : k ≤ R.cells) (hs : n ≤ R.slots) (hq : Q (.inl (some (.int x))) h) : z_J Z mL_demand R k n Q 16 ls [.int x] h := z_iret (ty := .int) dL_demand_16 rfl rfl hk hs hq
def bL_demand_17 : zB := [(17, .astore 4, 19, nI 0), (19, .iconst 2, 20, nI 2)]
theorem bL_demand_17_ok : z_ok cL_demand 17 bL_demand_17 20 = true := by decide +kernel
theorem iL_demand_17 (hr : z_run 5 bL_demand_17 ls st = some (ls', st')) (g : z_J Z mL_demand R k n Q 20 ls' st' h) : z_J Z mL_demand R k n Q 17 ls st h := z_jr bL_demand_17 bL_demand_17_ok hr g
theorem dL_demand_20 : decode cL_demand 20 = .ok (.ireturn, 1) := by decide +kernel
theorem iL_demand_20 (hk : k ≤ R.cells) (hs : n ≤ R.slots) (hq : Q (.inl (some (.int x))) h) : z_J Z mL_demand R k n Q 20 ls [.int x] h := z_iret (ty := .int) dL_demand_20 rfl rfl hk hs hq
def bL_demand_21 : zB := [(21, .iconst 0, 22, nI 0)]
theorem bL_demand_21_ok : z_ok cL_demand 21 bL_demand_21 22 = true := by decide +kernel
theorem iL_demand_21 (hr : z_run 5 bL_demand_21 ls st = some (ls', st')) (g : z_J Z mL_demand R k n Q 22 ls' st' h) : z_J Z mL_demand R k n Q 21 ls st h := z_jr bL_demand_21 bL_demand_21_ok hr g
theorem dL_demand_22 : decode cL_demand 22 = .ok (.ireturn, 1) := by decide +kernel
theorem iL_demand_22 (hk : k ≤ R.cells) (hs : n ≤ R.slots) (hq : Q (.inl (some (.int x))) h) : z_J Z mL_demand R k n Q 22 ls [.int x] h := z_iret (ty := .int) dL_demand_22 rfl rfl hk hs hq
/-! L_gets -/
def bL_gets_0 : zB := [(0, .aload_n 3, 1, nI 0), (1, .iconst 0, 2, nI 0), (2, .aload_n 0, 3, nI 0), (3, .iload_n 1, 4, nI 0), (4, .iload_n 2, 5, nI 0)]
theorem bL_gets_0_ok : z_ok cL_gets 0 bL_gets_0 5 = true := by decide +kernel
theorem iL_gets_0 (hr : z_run 5 bL_gets_0 ls st = some (ls', st')) (g : z_J Z mL_gets R k n Q 5 ls' st' h) : z_J Z mL_gets R k n Q 0 ls st h := z_jr bL_gets_0 bL_gets_0_ok hr g
theorem dL_gets_5 : decode cL_gets 5 = .ok (.invokevirtual 60, 3) := by decide +kernel
theorem iL_gets_5 (ha : z_args 2 st [] = some (As, .ref b :: rest)) (hc : z_chk rest (.ref b :: As) 3 = true) (hh : h r = some (b, .inr (6, fs))) (hR : z_rm R R' 3 k n) (gc : z_J Z mX5_gets R' 0 0 Q' 0 (.ref b :: As) [] h) (kr : ∀ (v : Option Value) (h' : zH), Q' (.inl v) h' → z_J Z mL_gets R (k + R'.cells) (n + R'.slots) Q 8 ls (v.toList ++ rest) h') (kx : ∀ (E : String) (h' : zH), Q' (.inr E) h' → z_JX Z mL_gets R (k + R'.cells) (n + R'.slots) Q 5 ls E h') : z_J Z mL_gets R k n Q 5 ls st h := z_callV (M' := mX5_gets) dL_gets_5 rfl cs_L_60 rfl gw613 gw614 ha hh (ci := 6) rfl hR (z_chk1 hc) (z_chk2 hc) (z_chk3 hc) gc kr kx
def bL_gets_8 : zB := [(8, .i2l, 9, nI 0)]
theorem bL_gets_8_ok : z_ok cL_gets 8 bL_gets_8 9 = true := by decide +kernel
theorem iL_gets_8 (hr : z_run 5 bL_gets_8 ls st = some (ls', st')) (g : z_J Z mL_gets R k n Q 9 ls' st' h) : z_J Z mL_gets R k n Q 8 ls st h := z_jr bL_gets_8 bL_gets_8_ok hr g
theorem dL_gets_9 : decode cL_gets 9 = .ok (.lastore, 1) := by decide +kernel
theorem iL_gets_9 {f : Nat → Int64} {xl : Int64} (hh : h r = some (a, .inl (2, N, .inr (.inl f)))) (hi : i = nI j) (hj : j < N) (hN : N < 2 ^ 31) (g : z_J Z mL_gets R k n Q 10 ls st (z_u h r (a, .inl (2, N, .inr (.inl (vp_updL f j xl)))))) : z_J Z mL_gets R k n Q 9 ls (.long xl :: .int i :: .ref a :: st) h := z_last dL_gets_9 rfl hh hi hj hN g
def bL_gets_10 : zB := [(10, .goto 11, 21, nI 0)]
theorem bL_gets_10_ok : z_ok cL_gets 10 bL_gets_10 21 = true := by decide +kernel
theorem iL_gets_10 (hr : z_run 5 bL_gets_10 ls st = some (ls', st')) (g : z_J Z mL_gets R k n Q 21 ls' st' h) : z_J Z mL_gets R k n Q 10 ls st h := z_jr bL_gets_10 bL_gets_10_ok hr g
def bL_gets_13 : zB := [(13, .astore 4, 15, nI 0), (15, .iconst 1, 16, nI 1)]
theorem bL_gets_13_ok : z_ok cL_gets 13 bL_gets_13 16 = true := by decide +kernel
theorem iL_gets_13 (hr : z_run 5 bL_gets_13 ls st = some (ls', st')) (g : z_J Z mL_gets R k n Q 16 ls' st' h) : z_J Z mL_gets R k n Q 13 ls st h := z_jr bL_gets_13 bL_gets_13_ok hr g
theorem dL_gets_16 : decode cL_gets 16 = .ok (.ireturn, 1) := by decide +kernel
theorem iL_gets_16 (hk : k ≤ R.cells) (hs : n ≤ R.slots) (hq : Q (.inl (some (.int x))) h) : z_J Z mL_gets R k n Q 16 ls [.int x] h := z_iret (ty := .int) dL_gets_16 rfl rfl hk hs hq
def bL_gets_17 : zB := [(17, .astore 4, 19, nI 0), (19, .iconst 2, 20, nI 2)]
theorem bL_gets_17_ok : z_ok cL_gets 17 bL_gets_17 20 = true := by decide +kernel
theorem iL_gets_17 (hr : z_run 5 bL_gets_17 ls st = some (ls', st')) (g : z_J Z mL_gets R k n Q 20 ls' st' h) : z_J Z mL_gets R k n Q 17 ls st h := z_jr bL_gets_17 bL_gets_17_ok hr g
theorem dL_gets_20 : decode cL_gets 20 = .ok (.ireturn, 1) := by decide +kernel
theorem iL_gets_20 (hk : k ≤ R.cells) (hs : n ≤ R.slots) (hq : Q (.inl (some (.int x))) h) : z_J Z mL_gets R k n Q 20 ls [.int x] h := z_iret (ty := .int) dL_gets_20 rfl rfl hk hs hq
def bL_gets_21 : zB := [(21, .iconst 0, 22, nI 0)]
theorem bL_gets_21_ok : z_ok cL_gets 21 bL_gets_21 22 = true := by decide +kernel
theorem iL_gets_21 (hr : z_run 5 bL_gets_21 ls st = some (ls', st')) (g : z_J Z mL_gets R k n Q 22 ls' st' h) : z_J Z mL_gets R k n Q 21 ls st h := z_jr bL_gets_21 bL_gets_21_ok hr g
theorem dL_gets_22 : decode cL_gets 22 = .ok (.ireturn, 1) := by decide +kernel
theorem iL_gets_22 (hk : k ≤ R.cells) (hs : n ≤ R.slots) (hq : Q (.inl (some (.int x))) h) : z_J Z mL_gets R k n Q 22 ls [.int x] h := z_iret (ty := .int) dL_gets_22 rfl rfl hk hs hq
/-! L_lack -/
def bL_lack_0 : zB := [(0, .aload_n 2, 1, nI 0), (1, .iconst 0, 2, nI 0), (2, .aload_n 0, 3, nI 0), (3, .iload_n 1, 4, nI 0)]
theorem bL_lack_0_ok : z_ok cL_lack 0 bL_lack_0 4 = true := by decide +kernel
theorem iL_lack_0 (hr : z_run 4 bL_lack_0 ls st = some (ls', st')) (g : z_J Z mL_lack R k n Q 4 ls' st' h) : z_J Z mL_lack R k n Q 0 ls st h := z_jr bL_lack_0 bL_lack_0_ok hr g
theorem dL_lack_4 : decode cL_lack 4 = .ok (.invokevirtual 63, 3) := by decide +kernel
theorem iL_lack_4 (ha : z_args 1 st [] = some (As, .ref b :: rest)) (hc : z_chk rest (.ref b :: As) 2 = true) (hh : h r = some (b, .inr (6, fs))) (hR : z_rm R R' 2 k n) (gc : z_J Z mX5_lack R' 0 0 Q' 0 (.ref b :: As) [] h) (kr : ∀ (v : Option Value) (h' : zH), Q' (.inl v) h' → z_J Z mL_lack R (k + R'.cells) (n + R'.slots) Q 7 ls (v.toList ++ rest) h') (kx : ∀ (E : String) (h' : zH), Q' (.inr E) h' → z_JX Z mL_lack R (k + R'.cells) (n + R'.slots) Q 4 ls E h') : z_J Z mL_lack R k n Q 4 ls st h := z_callV (M' := mX5_lack) dL_lack_4 rfl cs_L_63 rfl gw669 gw670 ha hh (ci := 6) rfl hR (z_chk1 hc) (z_chk2 hc) (z_chk3 hc) gc kr kx
def bL_lack_7 : zB := [(7, .i2l, 8, nI 0)]
theorem bL_lack_7_ok : z_ok cL_lack 7 bL_lack_7 8 = true := by decide +kernel
theorem iL_lack_7 (hr : z_run 4 bL_lack_7 ls st = some (ls', st')) (g : z_J Z mL_lack R k n Q 8 ls' st' h) : z_J Z mL_lack R k n Q 7 ls st h := z_jr bL_lack_7 bL_lack_7_ok hr g
theorem dL_lack_8 : decode cL_lack 8 = .ok (.lastore, 1) := by decide +kernel
theorem iL_lack_8 {f : Nat → Int64} {xl : Int64} (hh : h r = some (a, .inl (2, N, .inr (.inl f)))) (hi : i = nI j) (hj : j < N) (hN : N < 2 ^ 31) (g : z_J Z mL_lack R k n Q 9 ls st (z_u h r (a, .inl (2, N, .inr (.inl (vp_updL f j xl)))))) : z_J Z mL_lack R k n Q 8 ls (.long xl :: .int i :: .ref a :: st) h := z_last dL_lack_8 rfl hh hi hj hN g
def bL_lack_9 : zB := [(9, .goto 6, 15, nI 0)]
theorem bL_lack_9_ok : z_ok cL_lack 9 bL_lack_9 15 = true := by decide +kernel
theorem iL_lack_9 (hr : z_run 4 bL_lack_9 ls st = some (ls', st')) (g : z_J Z mL_lack R k n Q 15 ls' st' h) : z_J Z mL_lack R k n Q 9 ls st h := z_jr bL_lack_9 bL_lack_9_ok hr g
def bL_lack_12 : zB := [(12, .astore_n 3, 13, nI 0), (13, .iconst 1, 14, nI 1)]
theorem bL_lack_12_ok : z_ok cL_lack 12 bL_lack_12 14 = true := by decide +kernel
theorem iL_lack_12 (hr : z_run 4 bL_lack_12 ls st = some (ls', st')) (g : z_J Z mL_lack R k n Q 14 ls' st' h) : z_J Z mL_lack R k n Q 12 ls st h := z_jr bL_lack_12 bL_lack_12_ok hr g
theorem dL_lack_14 : decode cL_lack 14 = .ok (.ireturn, 1) := by decide +kernel
theorem iL_lack_14 (hk : k ≤ R.cells) (hs : n ≤ R.slots) (hq : Q (.inl (some (.int x))) h) : z_J Z mL_lack R k n Q 14 ls [.int x] h := z_iret (ty := .int) dL_lack_14 rfl rfl hk hs hq
def bL_lack_15 : zB := [(15, .iconst 0, 16, nI 0)]
theorem bL_lack_15_ok : z_ok cL_lack 15 bL_lack_15 16 = true := by decide +kernel
theorem iL_lack_15 (hr : z_run 4 bL_lack_15 ls st = some (ls', st')) (g : z_J Z mL_lack R k n Q 16 ls' st' h) : z_J Z mL_lack R k n Q 15 ls st h := z_jr bL_lack_15 bL_lack_15_ok hr g
theorem dL_lack_16 : decode cL_lack 16 = .ok (.ireturn, 1) := by decide +kernel
theorem iL_lack_16 (hk : k ≤ R.cells) (hs : n ≤ R.slots) (hq : Q (.inl (some (.int x))) h) : z_J Z mL_lack R k n Q 16 ls [.int x] h := z_iret (ty := .int) dL_lack_16 rfl rfl hk hs hq
/-! L_lackBySets -/
def bL_lackBySets_0 : zB := [(0, .aload_n 2, 1, nI 0), (1, .iconst 0, 2, nI 0), (2, .aload_n 0, 3, nI 0), (3, .iload_n 1, 4, nI 0)]
theorem bL_lackBySets_0_ok : z_ok cL_lackBySets 0 bL_lackBySets_0 4 = true := by decide +kernel
theorem iL_lackBySets_0 (hr : z_run 4 bL_lackBySets_0 ls st = some (ls', st')) (g : z_J Z mL_lackBySets R k n Q 4 ls' st' h) : z_J Z mL_lackBySets R k n Q 0 ls st h := z_jr bL_lackBySets_0 bL_lackBySets_0_ok hr g
theorem dL_lackBySets_4 : decode cL_lackBySets 4 = .ok (.invokevirtual 66, 3) := by decide +kernel
theorem iL_lackBySets_4 (ha : z_args 1 st [] = some (As, .ref b :: rest)) (hc : z_chk rest (.ref b :: As) 4 = true) (hh : h r = some (b, .inr (6, fs))) (hR : z_rm R R' 4 k n) (gc : z_J Z mX5_lackBySets R' 0 0 Q' 0 (.ref b :: As) [] h) (kr : ∀ (v : Option Value) (h' : zH), Q' (.inl v) h' → z_J Z mL_lackBySets R (k + R'.cells) (n + R'.slots) Q 7 ls (v.toList ++ rest) h') (kx : ∀ (E : String) (h' : zH), Q' (.inr E) h' → z_JX Z mL_lackBySets R (k + R'.cells) (n + R'.slots) Q 4 ls E h') : z_J Z mL_lackBySets R k n Q 4 ls st h := z_callV (M' := mX5_lackBySets) dL_lackBySets_4 rfl cs_L_66 rfl gw680 gw681 ha hh (ci := 6) rfl hR (z_chk1 hc) (z_chk2 hc) (z_chk3 hc) gc kr kx
def bL_lackBySets_7 : zB := [(7, .i2l, 8, nI 0)]
theorem bL_lackBySets_7_ok : z_ok cL_lackBySets 7 bL_lackBySets_7 8 = true := by decide +kernel
theorem iL_lackBySets_7 (hr : z_run 4 bL_lackBySets_7 ls st = some (ls', st')) (g : z_J Z mL_lackBySets R k n Q 8 ls' st' h) : z_J Z mL_lackBySets R k n Q 7 ls st h := z_jr bL_lackBySets_7 bL_lackBySets_7_ok hr g
theorem dL_lackBySets_8 : decode cL_lackBySets 8 = .ok (.lastore, 1) := by decide +kernel
theorem iL_lackBySets_8 {f : Nat → Int64} {xl : Int64} (hh : h r = some (a, .inl (2, N, .inr (.inl f)))) (hi : i = nI j) (hj : j < N) (hN : N < 2 ^ 31) (g : z_J Z mL_lackBySets R k n Q 9 ls st (z_u h r (a, .inl (2, N, .inr (.inl (vp_updL f j xl)))))) : z_J Z mL_lackBySets R k n Q 8 ls (.long xl :: .int i :: .ref a :: st) h := z_last dL_lackBySets_8 rfl hh hi hj hN g
def bL_lackBySets_9 : zB := [(9, .goto 9, 18, nI 0)]
theorem bL_lackBySets_9_ok : z_ok cL_lackBySets 9 bL_lackBySets_9 18 = true := by decide +kernel
theorem iL_lackBySets_9 (hr : z_run 4 bL_lackBySets_9 ls st = some (ls', st')) (g : z_J Z mL_lackBySets R k n Q 18 ls' st' h) : z_J Z mL_lackBySets R k n Q 9 ls st h := z_jr bL_lackBySets_9 bL_lackBySets_9_ok hr g
def bL_lackBySets_12 : zB := [(12, .astore_n 3, 13, nI 0), (13, .iconst 1, 14, nI 1)]
theorem bL_lackBySets_12_ok : z_ok cL_lackBySets 12 bL_lackBySets_12 14 = true := by decide +kernel
theorem iL_lackBySets_12 (hr : z_run 4 bL_lackBySets_12 ls st = some (ls', st')) (g : z_J Z mL_lackBySets R k n Q 14 ls' st' h) : z_J Z mL_lackBySets R k n Q 12 ls st h := z_jr bL_lackBySets_12 bL_lackBySets_12_ok hr g
theorem dL_lackBySets_14 : decode cL_lackBySets 14 = .ok (.ireturn, 1) := by decide +kernel
theorem iL_lackBySets_14 (hk : k ≤ R.cells) (hs : n ≤ R.slots) (hq : Q (.inl (some (.int x))) h) : z_J Z mL_lackBySets R k n Q 14 ls [.int x] h := z_iret (ty := .int) dL_lackBySets_14 rfl rfl hk hs hq
def bL_lackBySets_15 : zB := [(15, .astore_n 3, 16, nI 0), (16, .iconst 2, 17, nI 2)]
theorem bL_lackBySets_15_ok : z_ok cL_lackBySets 15 bL_lackBySets_15 17 = true := by decide +kernel
theorem iL_lackBySets_15 (hr : z_run 4 bL_lackBySets_15 ls st = some (ls', st')) (g : z_J Z mL_lackBySets R k n Q 17 ls' st' h) : z_J Z mL_lackBySets R k n Q 15 ls st h := z_jr bL_lackBySets_15 bL_lackBySets_15_ok hr g
theorem dL_lackBySets_17 : decode cL_lackBySets 17 = .ok (.ireturn, 1) := by decide +kernel
theorem iL_lackBySets_17 (hk : k ≤ R.cells) (hs : n ≤ R.slots) (hq : Q (.inl (some (.int x))) h) : z_J Z mL_lackBySets R k n Q 17 ls [.int x] h := z_iret (ty := .int) dL_lackBySets_17 rfl rfl hk hs hq
def bL_lackBySets_18 : zB := [(18, .iconst 0, 19, nI 0)]
theorem bL_lackBySets_18_ok : z_ok cL_lackBySets 18 bL_lackBySets_18 19 = true := by decide +kernel
theorem iL_lackBySets_18 (hr : z_run 4 bL_lackBySets_18 ls st = some (ls', st')) (g : z_J Z mL_lackBySets R k n Q 19 ls' st' h) : z_J Z mL_lackBySets R k n Q 18 ls st h := z_jr bL_lackBySets_18 bL_lackBySets_18_ok hr g
theorem dL_lackBySets_19 : decode cL_lackBySets 19 = .ok (.ireturn, 1) := by decide +kernel
theorem iL_lackBySets_19 (hk : k ≤ R.cells) (hs : n ≤ R.slots) (hq : Q (.inl (some (.int x))) h) : z_J Z mL_lackBySets R k n Q 19 ls [.int x] h := z_iret (ty := .int) dL_lackBySets_19 rfl rfl hk hs hq
/-! L_spare -/
def bL_spare_0 : zB := [(0, .aload 4, 2, nI 0), (2, .iconst 0, 3, nI 0), (3, .aload_n 0, 4, nI 0), (4, .iload_n 1, 5, nI 0), (5, .iload_n 2, 6, nI 0), (6, .iload_n 3, 7, nI 0)]
theorem bL_spare_0_ok : z_ok cL_spare 0 bL_spare_0 7 = true := by decide +kernel
theorem iL_spare_0 (hr : z_run 6 bL_spare_0 ls st = some (ls', st')) (g : z_J Z mL_spare R k n Q 7 ls' st' h) : z_J Z mL_spare R k n Q 0 ls st h := z_jr bL_spare_0 bL_spare_0_ok hr g
theorem dL_spare_7 : decode cL_spare 7 = .ok (.invokevirtual 69, 3) := by decide +kernel
theorem iL_spare_7 (ha : z_args 3 st [] = some (As, .ref b :: rest)) (hc : z_chk rest (.ref b :: As) 4 = true) (hh : h r = some (b, .inr (6, fs))) (hR : z_rm R R' 4 k n) (gc : z_J Z mX5_spare R' 0 0 Q' 0 (.ref b :: As) [] h) (kr : ∀ (v : Option Value) (h' : zH), Q' (.inl v) h' → z_J Z mL_spare R (k + R'.cells) (n + R'.slots) Q 10 ls (v.toList ++ rest) h') (kx : ∀ (E : String) (h' : zH), Q' (.inr E) h' → z_JX Z mL_spare R (k + R'.cells) (n + R'.slots) Q 7 ls E h') : z_J Z mL_spare R k n Q 7 ls st h := z_callV (M' := mX5_spare) dL_spare_7 rfl cs_L_69 rfl gw701 gw702 ha hh (ci := 6) rfl hR (z_chk1 hc) (z_chk2 hc) (z_chk3 hc) gc kr kx
def bL_spare_10 : zB := [(10, .i2l, 11, nI 0)]
theorem bL_spare_10_ok : z_ok cL_spare 10 bL_spare_10 11 = true := by decide +kernel
theorem iL_spare_10 (hr : z_run 6 bL_spare_10 ls st = some (ls', st')) (g : z_J Z mL_spare R k n Q 11 ls' st' h) : z_J Z mL_spare R k n Q 10 ls st h := z_jr bL_spare_10 bL_spare_10_ok hr g
theorem dL_spare_11 : decode cL_spare 11 = .ok (.lastore, 1) := by decide +kernel
theorem iL_spare_11 {f : Nat → Int64} {xl : Int64} (hh : h r = some (a, .inl (2, N, .inr (.inl f)))) (hi : i = nI j) (hj : j < N) (hN : N < 2 ^ 31) (g : z_J Z mL_spare R k n Q 12 ls st (z_u h r (a, .inl (2, N, .inr (.inl (vp_updL f j xl)))))) : z_J Z mL_spare R k n Q 11 ls (.long xl :: .int i :: .ref a :: st) h := z_last dL_spare_11 rfl hh hi hj hN g
def bL_spare_12 : zB := [(12, .goto 11, 23, nI 0)]
theorem bL_spare_12_ok : z_ok cL_spare 12 bL_spare_12 23 = true := by decide +kernel
theorem iL_spare_12 (hr : z_run 6 bL_spare_12 ls st = some (ls', st')) (g : z_J Z mL_spare R k n Q 23 ls' st' h) : z_J Z mL_spare R k n Q 12 ls st h := z_jr bL_spare_12 bL_spare_12_ok hr g
def bL_spare_15 : zB := [(15, .astore 5, 17, nI 0), (17, .iconst 1, 18, nI 1)]
theorem bL_spare_15_ok : z_ok cL_spare 15 bL_spare_15 18 = true := by decide +kernel
theorem iL_spare_15 (hr : z_run 6 bL_spare_15 ls st = some (ls', st')) (g : z_J Z mL_spare R k n Q 18 ls' st' h) : z_J Z mL_spare R k n Q 15 ls st h := z_jr bL_spare_15 bL_spare_15_ok hr g
theorem dL_spare_18 : decode cL_spare 18 = .ok (.ireturn, 1) := by decide +kernel
theorem iL_spare_18 (hk : k ≤ R.cells) (hs : n ≤ R.slots) (hq : Q (.inl (some (.int x))) h) : z_J Z mL_spare R k n Q 18 ls [.int x] h := z_iret (ty := .int) dL_spare_18 rfl rfl hk hs hq
def bL_spare_19 : zB := [(19, .astore 5, 21, nI 0), (21, .iconst 2, 22, nI 2)]
theorem bL_spare_19_ok : z_ok cL_spare 19 bL_spare_19 22 = true := by decide +kernel
theorem iL_spare_19 (hr : z_run 6 bL_spare_19 ls st = some (ls', st')) (g : z_J Z mL_spare R k n Q 22 ls' st' h) : z_J Z mL_spare R k n Q 19 ls st h := z_jr bL_spare_19 bL_spare_19_ok hr g
theorem dL_spare_22 : decode cL_spare 22 = .ok (.ireturn, 1) := by decide +kernel
theorem iL_spare_22 (hk : k ≤ R.cells) (hs : n ≤ R.slots) (hq : Q (.inl (some (.int x))) h) : z_J Z mL_spare R k n Q 22 ls [.int x] h := z_iret (ty := .int) dL_spare_22 rfl rfl hk hs hq
def bL_spare_23 : zB := [(23, .iconst 0, 24, nI 0)]
theorem bL_spare_23_ok : z_ok cL_spare 23 bL_spare_23 24 = true := by decide +kernel
theorem iL_spare_23 (hr : z_run 6 bL_spare_23 ls st = some (ls', st')) (g : z_J Z mL_spare R k n Q 24 ls' st' h) : z_J Z mL_spare R k n Q 23 ls st h := z_jr bL_spare_23 bL_spare_23_ok hr g
theorem dL_spare_24 : decode cL_spare 24 = .ok (.ireturn, 1) := by decide +kernel
theorem iL_spare_24 (hk : k ≤ R.cells) (hs : n ≤ R.slots) (hq : Q (.inl (some (.int x))) h) : z_J Z mL_spare R k n Q 24 ls [.int x] h := z_iret (ty := .int) dL_spare_24 rfl rfl hk hs hq
/-! L_most -/
def bL_most_0 : zB := [(0, .aload_n 3, 1, nI 0), (1, .iconst 0, 2, nI 0), (2, .aload_n 0, 3, nI 0), (3, .iload_n 1, 4, nI 0), (4, .iload_n 2, 5, nI 0)]
theorem bL_most_0_ok : z_ok cL_most 0 bL_most_0 5 = true := by decide +kernel
theorem iL_most_0 (hr : z_run 5 bL_most_0 ls st = some (ls', st')) (g : z_J Z mL_most R k n Q 5 ls' st' h) : z_J Z mL_most R k n Q 0 ls st h := z_jr bL_most_0 bL_most_0_ok hr g
theorem dL_most_5 : decode cL_most 5 = .ok (.invokevirtual 72, 3) := by decide +kernel
theorem iL_most_5 (ha : z_args 2 st [] = some (As, .ref b :: rest)) (hc : z_chk rest (.ref b :: As) 5 = true) (hh : h r = some (b, .inr (6, fs))) (hR : z_rm R R' 5 k n) (gc : z_J Z mX5_most R' 0 0 Q' 0 (.ref b :: As) [] h) (kr : ∀ (v : Option Value) (h' : zH), Q' (.inl v) h' → z_J Z mL_most R (k + R'.cells) (n + R'.slots) Q 8 ls (v.toList ++ rest) h') (kx : ∀ (E : String) (h' : zH), Q' (.inr E) h' → z_JX Z mL_most R (k + R'.cells) (n + R'.slots) Q 5 ls E h') : z_J Z mL_most R k n Q 5 ls st h := z_callV (M' := mX5_most) dL_most_5 rfl cs_L_72 rfl gw708 gw709 ha hh (ci := 6) rfl hR (z_chk1 hc) (z_chk2 hc) (z_chk3 hc) gc kr kx
def bL_most_8 : zB := [(8, .i2l, 9, nI 0)]
theorem bL_most_8_ok : z_ok cL_most 8 bL_most_8 9 = true := by decide +kernel
theorem iL_most_8 (hr : z_run 5 bL_most_8 ls st = some (ls', st')) (g : z_J Z mL_most R k n Q 9 ls' st' h) : z_J Z mL_most R k n Q 8 ls st h := z_jr bL_most_8 bL_most_8_ok hr g
theorem dL_most_9 : decode cL_most 9 = .ok (.lastore, 1) := by decide +kernel
theorem iL_most_9 {f : Nat → Int64} {xl : Int64} (hh : h r = some (a, .inl (2, N, .inr (.inl f)))) (hi : i = nI j) (hj : j < N) (hN : N < 2 ^ 31) (g : z_J Z mL_most R k n Q 10 ls st (z_u h r (a, .inl (2, N, .inr (.inl (vp_updL f j xl)))))) : z_J Z mL_most R k n Q 9 ls (.long xl :: .int i :: .ref a :: st) h := z_last dL_most_9 rfl hh hi hj hN g
def bL_most_10 : zB := [(10, .goto 11, 21, nI 0)]
theorem bL_most_10_ok : z_ok cL_most 10 bL_most_10 21 = true := by decide +kernel
theorem iL_most_10 (hr : z_run 5 bL_most_10 ls st = some (ls', st')) (g : z_J Z mL_most R k n Q 21 ls' st' h) : z_J Z mL_most R k n Q 10 ls st h := z_jr bL_most_10 bL_most_10_ok hr g
def bL_most_13 : zB := [(13, .astore 4, 15, nI 0), (15, .iconst 1, 16, nI 1)]
theorem bL_most_13_ok : z_ok cL_most 13 bL_most_13 16 = true := by decide +kernel
theorem iL_most_13 (hr : z_run 5 bL_most_13 ls st = some (ls', st')) (g : z_J Z mL_most R k n Q 16 ls' st' h) : z_J Z mL_most R k n Q 13 ls st h := z_jr bL_most_13 bL_most_13_ok hr g
theorem dL_most_16 : decode cL_most 16 = .ok (.ireturn, 1) := by decide +kernel
theorem iL_most_16 (hk : k ≤ R.cells) (hs : n ≤ R.slots) (hq : Q (.inl (some (.int x))) h) : z_J Z mL_most R k n Q 16 ls [.int x] h := z_iret (ty := .int) dL_most_16 rfl rfl hk hs hq
def bL_most_17 : zB := [(17, .astore 4, 19, nI 0), (19, .iconst 2, 20, nI 2)]
theorem bL_most_17_ok : z_ok cL_most 17 bL_most_17 20 = true := by decide +kernel
theorem iL_most_17 (hr : z_run 5 bL_most_17 ls st = some (ls', st')) (g : z_J Z mL_most R k n Q 20 ls' st' h) : z_J Z mL_most R k n Q 17 ls st h := z_jr bL_most_17 bL_most_17_ok hr g
theorem dL_most_20 : decode cL_most 20 = .ok (.ireturn, 1) := by decide +kernel
theorem iL_most_20 (hk : k ≤ R.cells) (hs : n ≤ R.slots) (hq : Q (.inl (some (.int x))) h) : z_J Z mL_most R k n Q 20 ls [.int x] h := z_iret (ty := .int) dL_most_20 rfl rfl hk hs hq
def bL_most_21 : zB := [(21, .iconst 0, 22, nI 0)]
theorem bL_most_21_ok : z_ok cL_most 21 bL_most_21 22 = true := by decide +kernel
theorem iL_most_21 (hr : z_run 5 bL_most_21 ls st = some (ls', st')) (g : z_J Z mL_most R k n Q 22 ls' st' h) : z_J Z mL_most R k n Q 21 ls st h := z_jr bL_most_21 bL_most_21_ok hr g
theorem dL_most_22 : decode cL_most 22 = .ok (.ireturn, 1) := by decide +kernel
theorem iL_most_22 (hk : k ≤ R.cells) (hs : n ≤ R.slots) (hq : Q (.inl (some (.int x))) h) : z_J Z mL_most R k n Q 22 ls [.int x] h := z_iret (ty := .int) dL_most_22 rfl rfl hk hs hq
/-! law -/
theorem dlaw_0 : decode code 0 = .ok (.new 8, 3) := by decide +kernel
theorem ilaw_0 (r : Nat) (hR : k + 1 ≤ R.cells ∧ n + 5 ≤ R.slots) (g : ∀ q, z_J Z mlaw R (k + 1) (n + 5) Q 3 ls (.ref q :: st) (z_u h r (q, .inr (6, [.null, .null, .null, .null, .null])))) : z_J Z mlaw R k n Q 0 ls st h := z_new r (ty := tyX5) dlaw_0 rfl (ci := 6) rfl inG_X5 tyX5_ok gw54 gw55 gw32 (by decide +kernel) hR g
def blaw_3 : zB := [(3, .dup, 4, nI 0)]
theorem blaw_3_ok : z_ok code 3 blaw_3 4 = true := by decide +kernel
theorem ilaw_3 (hr : z_run 7 blaw_3 ls st = some (ls', st')) (g : z_J Z mlaw R k n Q 4 ls' st' h) : z_J Z mlaw R k n Q 3 ls st h := z_jr blaw_3 blaw_3_ok hr g
theorem dlaw_4 : decode code 4 = .ok (.invokespecial 75, 3) := by decide +kernel
theorem ilaw_4 (ha : z_args 0 st [] = some (As, .ref b :: rest)) (hc : z_chk rest (.ref b :: As) 1 = true) (hR : z_rm R R' 1 k n) (hq : ∀ E h', ¬ Q' (.inr E) h') (gc : z_J Z mX5_init R' 0 0 Q' 0 (.ref b :: As) [] h) (kr : ∀ (v : Option Value) (h' : zH), Q' (.inl v) h' → z_J Z mlaw R (k + R'.cells) (n + R'.slots) Q 7 ls (v.toList ++ rest) h') : z_J Z mlaw R k n Q 4 ls st h := z_callI (M' := mX5_init) dlaw_4 rfl cs_L_75 rfl rfl gw57 rfl ha hR (z_chk1 hc) (z_chk2 hc) (z_chk3 hc) hq gc kr
def blaw_7 : zB := [(7, .astore_n 1, 8, nI 0)]
theorem blaw_7_ok : z_ok code 7 blaw_7 8 = true := by decide +kernel
theorem ilaw_7 (hr : z_run 7 blaw_7 ls st = some (ls', st')) (g : z_J Z mlaw R k n Q 8 ls' st' h) : z_J Z mlaw R k n Q 7 ls st h := z_jr blaw_7 blaw_7_ok hr g
theorem dlaw_8 : decode code 8 = .ok (.new 76, 3) := by decide +kernel
theorem ilaw_8 (r : Nat) (hR : k + 1 ≤ R.cells ∧ n + 23 ≤ R.slots) (g : ∀ q, z_J Z mlaw R (k + 1) (n + 23) Q 11 ls (.ref q :: st) (z_u h r (q, .inr (7, [.int 0, .int 0, .null, .null, .null, .null, .null, .int 0, .null, .null, .null, .null, .null, .null, .null, .null, .int 0, .null, .null, .null, .null, .null, .null])))) : z_J Z mlaw R k n Q 8 ls st h := z_new r (ty := tyX6) dlaw_8 rfl (ci := 7) rfl inG_X6 tyX6_ok gw715 gw716 gw39 (by decide +kernel) hR g
def blaw_11 : zB := [(11, .dup, 12, nI 0)]
theorem blaw_11_ok : z_ok code 11 blaw_11 12 = true := by decide +kernel
theorem ilaw_11 (hr : z_run 7 blaw_11 ls st = some (ls', st')) (g : z_J Z mlaw R k n Q 12 ls' st' h) : z_J Z mlaw R k n Q 11 ls st h := z_jr blaw_11 blaw_11_ok hr g
theorem dlaw_12 : decode code 12 = .ok (.invokespecial 78, 3) := by decide +kernel
theorem ilaw_12 (ha : z_args 0 st [] = some (As, .ref b :: rest)) (hc : z_chk rest (.ref b :: As) 1 = true) (hR : z_rm R R' 1 k n) (hq : ∀ E h', ¬ Q' (.inr E) h') (gc : z_J Z mX6_init R' 0 0 Q' 0 (.ref b :: As) [] h) (kr : ∀ (v : Option Value) (h' : zH), Q' (.inl v) h' → z_J Z mlaw R (k + R'.cells) (n + R'.slots) Q 15 ls (v.toList ++ rest) h') : z_J Z mlaw R k n Q 12 ls st h := z_callI (M' := mX6_init) dlaw_12 rfl cs_L_78 rfl rfl gw718 rfl ha hR (z_chk1 hc) (z_chk2 hc) (z_chk3 hc) hq gc kr
def blaw_15 : zB := [(15, .astore_n 2, 16, nI 0), (16, .iconst 1, 17, nI 1)]
theorem blaw_15_ok : z_ok code 15 blaw_15 17 = true := by decide +kernel
theorem ilaw_15 (hr : z_run 7 blaw_15 ls st = some (ls', st')) (g : z_J Z mlaw R k n Q 17 ls' st' h) : z_J Z mlaw R k n Q 15 ls st h := z_jr blaw_15 blaw_15_ok hr g
theorem dlaw_17 : decode code 17 = .ok (.newarray .long, 2) := by decide +kernel
theorem ilaw_17 (r : Nat) (hi : i = nI N) (hN : N < 1000) (hR : k + 1 ≤ R.cells ∧ n + N ≤ R.slots) (g : ∀ q, z_J Z mlaw R (k + 1) (n + N) Q 19 ls (.ref q :: st) (z_u h r (q, .inl (2, N, .inr (.inl (fun _ => 0)))))) : z_J Z mlaw R k n Q 17 ls (.int i :: st) h := z_newa r (ty := .long) (t := 2) (a0 := (N, .inr (.inl (fun _ => 0)))) dlaw_17 rfl rfl (fun _ => rfl) (fun _ q => by cases q) gw945 (fun _ => rfl) hi hN hR (by show N * 8 ≤ 536870912; omega) g
def blaw_19 : zB := [(19, .astore_n 3, 20, nI 0), (20, .iconst 0, 21, nI 0), (21, .istore 4, 23, nI 0)]
theorem blaw_19_ok : z_ok code 19 blaw_19 23 = true := by decide +kernel
theorem ilaw_19 (hr : z_run 7 blaw_19 ls st = some (ls', st')) (g : z_J Z mlaw R k n Q 23 ls' st' h) : z_J Z mlaw R k n Q 19 ls st h := z_jr blaw_19 blaw_19_ok hr g
def blaw_23 : zB := [(23, .iload 4, 25, nI 0), (25, .aload_n 0, 26, nI 0)]
theorem blaw_23_ok : z_ok code 23 blaw_23 26 = true := by decide +kernel
theorem ilaw_23 (hr : z_run 7 blaw_23 ls st = some (ls', st')) (g : z_J Z mlaw R k n Q 26 ls' st' h) : z_J Z mlaw R k n Q 23 ls st h := z_jr blaw_23 blaw_23_ok hr g
theorem dlaw_26 : decode code 26 = .ok (.arraylength, 1) := by decide +kernel
theorem ilaw_26 (g : z_J Z mlaw R k n Q 27 ls (.int (nI Z.2.1) :: st) h) : z_J Z mlaw R k n Q 26 ls (.ref Z.1 :: st) h := z_slen dlaw_26 rfl g
def blaw_27 : zB := [(27, .bipush 6, 29, nI 6), (29, .isub, 30, nI 0)]
theorem blaw_27_ok : z_ok code 27 blaw_27 30 = true := by decide +kernel
theorem ilaw_27 (hr : z_run 7 blaw_27 ls st = some (ls', st')) (g : z_J Z mlaw R k n Q 30 ls' st' h) : z_J Z mlaw R k n Q 27 ls st h := z_jr blaw_27 blaw_27_ok hr g
theorem dlaw_30 : decode code 30 = .ok (.if_icmp .gt 1438, 3) := by decide +kernel
theorem ilaw_30 (kt : y < x → z_J Z mlaw R k n Q 1468 ls st h) (kf : ¬ y < x → z_J Z mlaw R k n Q 33 ls st h) : z_J Z mlaw R k n Q 30 ls (.int y :: .int x :: st) h := z_ic_gt dlaw_30 (tgt := 1468) (by decide) rfl kt kf
def blaw_33 : zB := [(33, .aload_n 0, 34, nI 0), (34, .iload 4, 36, nI 0)]
theorem blaw_33_ok : z_ok code 33 blaw_33 36 = true := by decide +kernel
theorem ilaw_33 (hr : z_run 7 blaw_33 ls st = some (ls', st')) (g : z_J Z mlaw R k n Q 36 ls' st' h) : z_J Z mlaw R k n Q 33 ls st h := z_jr blaw_33 blaw_33_ok hr g
theorem dlaw_36 : decode code 36 = .ok (.iaload, 1) := by decide +kernel
theorem ilaw_36 (hi : i = nI j) (hj : j < Z.2.1) (hN : Z.2.1 < 2 ^ 31) (g : z_J Z mlaw R k n Q 37 ls (.int (Z.2.2.1 j) :: st) h) : z_J Z mlaw R k n Q 36 ls (.int i :: .ref Z.1 :: st) h := z_sld dlaw_36 rfl hi hj hN g
def blaw_37 : zB := [(37, .bipush 31, 39, nI 31), (39, .iand, 40, nI 0)]
theorem blaw_37_ok : z_ok code 37 blaw_37 40 = true := by decide +kernel
theorem ilaw_37 (hr : z_run 7 blaw_37 ls st = some (ls', st')) (g : z_J Z mlaw R k n Q 40 ls' st' h) : z_J Z mlaw R k n Q 37 ls st h := z_jr blaw_37 blaw_37_ok hr g
theorem dlaw_40 : decode code 40 = .ok (.tableswitch 1422 0 19 #[96, 200, 268, 336, 349, 417, 485, 569, 637, 650, 742, 822, 902, 958, 1026, 1094, 1162, 1218, 1274, 1354], 96) := by decide +kernel
-- no row for .tableswitch 1422 0 19 #[96, 200, 268, 336, 349, 417, 485, 569, 637, 650, 742, 822, 902, 958, 1026, 1094, 1162, 1218, 1274, 1354] at 40
def blaw_136 : zB := [(136, .aload_n 1, 137, nI 0), (137, .aload_n 0, 138, nI 0), (138, .iload 4, 140, nI 0), (140, .iconst 1, 141, nI 1), (141, .iadd, 142, nI 0)]
theorem blaw_136_ok : z_ok code 136 blaw_136 142 = true := by decide +kernel
theorem ilaw_136 (hr : z_run 7 blaw_136 ls st = some (ls', st')) (g : z_J Z mlaw R k n Q 142 ls' st' h) : z_J Z mlaw R k n Q 136 ls st h := z_jr blaw_136 blaw_136_ok hr g
theorem dlaw_142 : decode code 142 = .ok (.iaload, 1) := by decide +kernel
theorem ilaw_142 (hi : i = nI j) (hj : j < Z.2.1) (hN : Z.2.1 < 2 ^ 31) (g : z_J Z mlaw R k n Q 143 ls (.int (Z.2.2.1 j) :: st) h) : z_J Z mlaw R k n Q 142 ls (.int i :: .ref Z.1 :: st) h := z_sld dlaw_142 rfl hi hj hN g
def blaw_143 : zB := [(143, .aload_n 0, 144, nI 0), (144, .iload 4, 146, nI 0), (146, .iconst 2, 147, nI 2), (147, .iadd, 148, nI 0)]
theorem blaw_143_ok : z_ok code 143 blaw_143 148 = true := by decide +kernel
theorem ilaw_143 (hr : z_run 7 blaw_143 ls st = some (ls', st')) (g : z_J Z mlaw R k n Q 148 ls' st' h) : z_J Z mlaw R k n Q 143 ls st h := z_jr blaw_143 blaw_143_ok hr g
theorem dlaw_148 : decode code 148 = .ok (.iaload, 1) := by decide +kernel
theorem ilaw_148 (hi : i = nI j) (hj : j < Z.2.1) (hN : Z.2.1 < 2 ^ 31) (g : z_J Z mlaw R k n Q 149 ls (.int (Z.2.2.1 j) :: st) h) : z_J Z mlaw R k n Q 148 ls (.int i :: .ref Z.1 :: st) h := z_sld dlaw_148 rfl hi hj hN g
def blaw_149 : zB := [(149, .aload_n 0, 150, nI 0), (150, .iload 4, 152, nI 0), (152, .iconst 3, 153, nI 3), (153, .iadd, 154, nI 0)]
theorem blaw_149_ok : z_ok code 149 blaw_149 154 = true := by decide +kernel
theorem ilaw_149 (hr : z_run 7 blaw_149 ls st = some (ls', st')) (g : z_J Z mlaw R k n Q 154 ls' st' h) : z_J Z mlaw R k n Q 149 ls st h := z_jr blaw_149 blaw_149_ok hr g
theorem dlaw_154 : decode code 154 = .ok (.iaload, 1) := by decide +kernel
theorem ilaw_154 (hi : i = nI j) (hj : j < Z.2.1) (hN : Z.2.1 < 2 ^ 31) (g : z_J Z mlaw R k n Q 155 ls (.int (Z.2.2.1 j) :: st) h) : z_J Z mlaw R k n Q 154 ls (.int i :: .ref Z.1 :: st) h := z_sld dlaw_154 rfl hi hj hN g
def blaw_155 : zB := [(155, .aload_n 0, 156, nI 0), (156, .iload 4, 158, nI 0), (158, .iconst 4, 159, nI 4), (159, .iadd, 160, nI 0)]
theorem blaw_155_ok : z_ok code 155 blaw_155 160 = true := by decide +kernel
theorem ilaw_155 (hr : z_run 7 blaw_155 ls st = some (ls', st')) (g : z_J Z mlaw R k n Q 160 ls' st' h) : z_J Z mlaw R k n Q 155 ls st h := z_jr blaw_155 blaw_155_ok hr g
theorem dlaw_160 : decode code 160 = .ok (.iaload, 1) := by decide +kernel
theorem ilaw_160 (hi : i = nI j) (hj : j < Z.2.1) (hN : Z.2.1 < 2 ^ 31) (g : z_J Z mlaw R k n Q 161 ls (.int (Z.2.2.1 j) :: st) h) : z_J Z mlaw R k n Q 160 ls (.int i :: .ref Z.1 :: st) h := z_sld dlaw_160 rfl hi hj hN g
def blaw_161 : zB := [(161, .aload_n 0, 162, nI 0), (162, .iload 4, 164, nI 0), (164, .iconst 5, 165, nI 5), (165, .iadd, 166, nI 0)]
theorem blaw_161_ok : z_ok code 161 blaw_161 166 = true := by decide +kernel
theorem ilaw_161 (hr : z_run 7 blaw_161 ls st = some (ls', st')) (g : z_J Z mlaw R k n Q 166 ls' st' h) : z_J Z mlaw R k n Q 161 ls st h := z_jr blaw_161 blaw_161_ok hr g
theorem dlaw_166 : decode code 166 = .ok (.iaload, 1) := by decide +kernel
theorem ilaw_166 (hi : i = nI j) (hj : j < Z.2.1) (hN : Z.2.1 < 2 ^ 31) (g : z_J Z mlaw R k n Q 167 ls (.int (Z.2.2.1 j) :: st) h) : z_J Z mlaw R k n Q 166 ls (.int i :: .ref Z.1 :: st) h := z_sld dlaw_166 rfl hi hj hN g
def blaw_167 : zB := [(167, .aload_n 3, 168, nI 0)]
theorem blaw_167_ok : z_ok code 167 blaw_167 168 = true := by decide +kernel
theorem ilaw_167 (hr : z_run 7 blaw_167 ls st = some (ls', st')) (g : z_J Z mlaw R k n Q 168 ls' st' h) : z_J Z mlaw R k n Q 167 ls st h := z_jr blaw_167 blaw_167_ok hr g
theorem dlaw_168 : decode code 168 = .ok (.invokestatic 79, 3) := by decide +kernel
theorem ilaw_168 (ha : z_args 7 st [] = some (As, rest)) (hc : z_chk rest As 8 = true) (hR : z_rm R R' 8 k n) (gc : z_J Z mL_addRight R' 0 0 Q' 0 As [] h) (kr : ∀ (v : Option Value) (h' : zH), Q' (.inl v) h' → z_J Z mlaw R (k + R'.cells) (n + R'.slots) Q 171 ls (v.toList ++ rest) h') (kx : ∀ (E : String) (h' : zH), Q' (.inr E) h' → z_JX Z mlaw R (k + R'.cells) (n + R'.slots) Q 168 ls E h') : z_J Z mlaw R k n Q 168 ls st h := z_callS (M' := mL_addRight) dlaw_168 rfl cs_L_79 gw191 ha hR (z_chk1 hc) (z_chk2 hc) (z_chk3 hc) gc kr kx
def blaw_171 : zB := [(171, .istore 5, 173, nI 0), (173, .aload_n 2, 174, nI 0), (174, .aload_n 0, 175, nI 0), (175, .iload 4, 177, nI 0), (177, .iconst 1, 178, nI 1), (178, .iadd, 179, nI 0)]
theorem blaw_171_ok : z_ok code 171 blaw_171 179 = true := by decide +kernel
theorem ilaw_171 (hr : z_run 7 blaw_171 ls st = some (ls', st')) (g : z_J Z mlaw R k n Q 179 ls' st' h) : z_J Z mlaw R k n Q 171 ls st h := z_jr blaw_171 blaw_171_ok hr g
theorem dlaw_179 : decode code 179 = .ok (.iaload, 1) := by decide +kernel
theorem ilaw_179 (hi : i = nI j) (hj : j < Z.2.1) (hN : Z.2.1 < 2 ^ 31) (g : z_J Z mlaw R k n Q 180 ls (.int (Z.2.2.1 j) :: st) h) : z_J Z mlaw R k n Q 179 ls (.int i :: .ref Z.1 :: st) h := z_sld dlaw_179 rfl hi hj hN g
def blaw_180 : zB := [(180, .aload_n 0, 181, nI 0), (181, .iload 4, 183, nI 0), (183, .iconst 2, 184, nI 2), (184, .iadd, 185, nI 0)]
theorem blaw_180_ok : z_ok code 180 blaw_180 185 = true := by decide +kernel
theorem ilaw_180 (hr : z_run 7 blaw_180 ls st = some (ls', st')) (g : z_J Z mlaw R k n Q 185 ls' st' h) : z_J Z mlaw R k n Q 180 ls st h := z_jr blaw_180 blaw_180_ok hr g
theorem dlaw_185 : decode code 185 = .ok (.iaload, 1) := by decide +kernel
theorem ilaw_185 (hi : i = nI j) (hj : j < Z.2.1) (hN : Z.2.1 < 2 ^ 31) (g : z_J Z mlaw R k n Q 186 ls (.int (Z.2.2.1 j) :: st) h) : z_J Z mlaw R k n Q 185 ls (.int i :: .ref Z.1 :: st) h := z_sld dlaw_185 rfl hi hj hN g
def blaw_186 : zB := [(186, .aload_n 0, 187, nI 0), (187, .iload 4, 189, nI 0), (189, .iconst 3, 190, nI 3), (190, .iadd, 191, nI 0)]
theorem blaw_186_ok : z_ok code 186 blaw_186 191 = true := by decide +kernel
theorem ilaw_186 (hr : z_run 7 blaw_186 ls st = some (ls', st')) (g : z_J Z mlaw R k n Q 191 ls' st' h) : z_J Z mlaw R k n Q 186 ls st h := z_jr blaw_186 blaw_186_ok hr g
theorem dlaw_191 : decode code 191 = .ok (.iaload, 1) := by decide +kernel
theorem ilaw_191 (hi : i = nI j) (hj : j < Z.2.1) (hN : Z.2.1 < 2 ^ 31) (g : z_J Z mlaw R k n Q 192 ls (.int (Z.2.2.1 j) :: st) h) : z_J Z mlaw R k n Q 191 ls (.int i :: .ref Z.1 :: st) h := z_sld dlaw_191 rfl hi hj hN g
def blaw_192 : zB := [(192, .aload_n 0, 193, nI 0), (193, .iload 4, 195, nI 0), (195, .iconst 4, 196, nI 4), (196, .iadd, 197, nI 0)]
theorem blaw_192_ok : z_ok code 192 blaw_192 197 = true := by decide +kernel
theorem ilaw_192 (hr : z_run 7 blaw_192 ls st = some (ls', st')) (g : z_J Z mlaw R k n Q 197 ls' st' h) : z_J Z mlaw R k n Q 192 ls st h := z_jr blaw_192 blaw_192_ok hr g
theorem dlaw_197 : decode code 197 = .ok (.iaload, 1) := by decide +kernel
theorem ilaw_197 (hi : i = nI j) (hj : j < Z.2.1) (hN : Z.2.1 < 2 ^ 31) (g : z_J Z mlaw R k n Q 198 ls (.int (Z.2.2.1 j) :: st) h) : z_J Z mlaw R k n Q 197 ls (.int i :: .ref Z.1 :: st) h := z_sld dlaw_197 rfl hi hj hN g
def blaw_198 : zB := [(198, .aload_n 0, 199, nI 0), (199, .iload 4, 201, nI 0), (201, .iconst 5, 202, nI 5), (202, .iadd, 203, nI 0)]
theorem blaw_198_ok : z_ok code 198 blaw_198 203 = true := by decide +kernel
theorem ilaw_198 (hr : z_run 7 blaw_198 ls st = some (ls', st')) (g : z_J Z mlaw R k n Q 203 ls' st' h) : z_J Z mlaw R k n Q 198 ls st h := z_jr blaw_198 blaw_198_ok hr g
theorem dlaw_203 : decode code 203 = .ok (.iaload, 1) := by decide +kernel
theorem ilaw_203 (hi : i = nI j) (hj : j < Z.2.1) (hN : Z.2.1 < 2 ^ 31) (g : z_J Z mlaw R k n Q 204 ls (.int (Z.2.2.1 j) :: st) h) : z_J Z mlaw R k n Q 203 ls (.int i :: .ref Z.1 :: st) h := z_sld dlaw_203 rfl hi hj hN g
theorem dlaw_204 : decode code 204 = .ok (.invokevirtual 84, 3) := by decide +kernel
theorem ilaw_204 (ha : z_args 5 st [] = some (As, .ref b :: rest)) (hc : z_chk rest (.ref b :: As) 7 = true) (hh : h r = some (b, .inr (7, fs))) (hR : z_rm R R' 7 k n) (gc : z_J Z mX6_addRight R' 0 0 Q' 0 (.ref b :: As) [] h) (kr : ∀ (v : Option Value) (h' : zH), Q' (.inl v) h' → z_J Z mlaw R (k + R'.cells) (n + R'.slots) Q 207 ls (v.toList ++ rest) h') (kx : ∀ (E : String) (h' : zH), Q' (.inr E) h' → z_JX Z mlaw R (k + R'.cells) (n + R'.slots) Q 204 ls E h') : z_J Z mlaw R k n Q 204 ls st h := z_callV (M' := mX6_addRight) dlaw_204 rfl cs_L_84 rfl gw797 gw798 ha hh (ci := 7) rfl hR (z_chk1 hc) (z_chk2 hc) (z_chk3 hc) gc kr kx
def blaw_207 : zB := [(207, .istore 6, 209, nI 0), (209, .aload_n 2, 210, nI 0)]
theorem blaw_207_ok : z_ok code 207 blaw_207 210 = true := by decide +kernel
theorem ilaw_207 (hr : z_run 7 blaw_207 ls st = some (ls', st')) (g : z_J Z mlaw R k n Q 210 ls' st' h) : z_J Z mlaw R k n Q 207 ls st h := z_jr blaw_207 blaw_207_ok hr g
theorem dlaw_210 : decode code 210 = .ok (.invokevirtual 85, 3) := by decide +kernel
theorem ilaw_210 (ha : z_args 0 st [] = some (As, .ref b :: rest)) (hc : z_chk rest (.ref b :: As) 1 = true) (hh : h r = some (b, .inr (7, fs))) (hR : z_rm R R' 1 k n) (gc : z_J Z mX6_thrown R' 0 0 Q' 0 (.ref b :: As) [] h) (kr : ∀ (v : Option Value) (h' : zH), Q' (.inl v) h' → z_J Z mlaw R (k + R'.cells) (n + R'.slots) Q 213 ls (v.toList ++ rest) h') (kx : ∀ (E : String) (h' : zH), Q' (.inr E) h' → z_JX Z mlaw R (k + R'.cells) (n + R'.slots) Q 210 ls E h') : z_J Z mlaw R k n Q 210 ls st h := z_callV (M' := mX6_thrown) dlaw_210 rfl cs_L_85 rfl gw793 gw794 ha hh (ci := 7) rfl hR (z_chk1 hc) (z_chk2 hc) (z_chk3 hc) gc kr kx
def blaw_213 : zB := [(213, .iload 5, 215, nI 0)]
theorem blaw_213_ok : z_ok code 213 blaw_213 215 = true := by decide +kernel
theorem ilaw_213 (hr : z_run 7 blaw_213 ls st = some (ls', st')) (g : z_J Z mlaw R k n Q 215 ls' st' h) : z_J Z mlaw R k n Q 213 ls st h := z_jr blaw_213 blaw_213_ok hr g
theorem dlaw_215 : decode code 215 = .ok (.if_icmp .eq 5, 3) := by decide +kernel
theorem ilaw_215 (kt : x = y → z_J Z mlaw R k n Q 220 ls st h) (kf : ¬ x = y → z_J Z mlaw R k n Q 218 ls st h) : z_J Z mlaw R k n Q 215 ls (.int y :: .int x :: st) h := z_ic_eq dlaw_215 (tgt := 220) (by decide) rfl kt kf
def blaw_218 : zB := [(218, .iconst 0, 219, nI 0)]
theorem blaw_218_ok : z_ok code 218 blaw_218 219 = true := by decide +kernel
theorem ilaw_218 (hr : z_run 7 blaw_218 ls st = some (ls', st')) (g : z_J Z mlaw R k n Q 219 ls' st' h) : z_J Z mlaw R k n Q 218 ls st h := z_jr blaw_218 blaw_218_ok hr g
theorem dlaw_219 : decode code 219 = .ok (.ireturn, 1) := by decide +kernel
theorem ilaw_219 (hz : narrow .boolean (.int x) = .int x) (hk : k ≤ R.cells) (hs : n ≤ R.slots) (hq : Q (.inl (some (.int x))) h) : z_J Z mlaw R k n Q 219 ls [.int x] h := z_iret (ty := .boolean) dlaw_219 rfl hz hk hs hq
def blaw_220 : zB := [(220, .iload 5, 222, nI 0)]
theorem blaw_220_ok : z_ok code 220 blaw_220 222 = true := by decide +kernel
theorem ilaw_220 (hr : z_run 7 blaw_220 ls st = some (ls', st')) (g : z_J Z mlaw R k n Q 222 ls' st' h) : z_J Z mlaw R k n Q 220 ls st h := z_jr blaw_220 blaw_220_ok hr g
theorem dlaw_222 : decode code 222 = .ok (.ifCond .ne 15, 3) := by decide +kernel
theorem ilaw_222 (kt : ¬ x = 0 → z_J Z mlaw R k n Q 237 ls st h) (kf : x = 0 → z_J Z mlaw R k n Q 225 ls st h) : z_J Z mlaw R k n Q 222 ls (.int x :: st) h := z_if_ne dlaw_222 (tgt := 237) (by decide) rfl kt kf
def blaw_225 : zB := [(225, .aload_n 3, 226, nI 0), (226, .iconst 0, 227, nI 0)]
theorem blaw_225_ok : z_ok code 225 blaw_225 227 = true := by decide +kernel
theorem ilaw_225 (hr : z_run 7 blaw_225 ls st = some (ls', st')) (g : z_J Z mlaw R k n Q 227 ls' st' h) : z_J Z mlaw R k n Q 225 ls st h := z_jr blaw_225 blaw_225_ok hr g
theorem dlaw_227 : decode code 227 = .ok (.laload, 1) := by decide +kernel
theorem ilaw_227 {f : Nat → Int64} (hh : h r = some (a, .inl (2, N, .inr (.inl f)))) (hi : i = nI j) (hj : j < N) (hN : N < 2 ^ 31) (g : z_J Z mlaw R k n Q 228 ls (.long (f j) :: st) h) : z_J Z mlaw R k n Q 227 ls (.int i :: .ref a :: st) h := z_lald dlaw_227 rfl hh hi hj hN g
def blaw_228 : zB := [(228, .iload 6, 230, nI 0), (230, .i2l, 231, nI 0)]
theorem blaw_228_ok : z_ok code 228 blaw_228 231 = true := by decide +kernel
theorem ilaw_228 (hr : z_run 7 blaw_228 ls st = some (ls', st')) (g : z_J Z mlaw R k n Q 231 ls' st' h) : z_J Z mlaw R k n Q 228 ls st h := z_jr blaw_228 blaw_228_ok hr g
theorem dlaw_231 : decode code 231 = .ok (.lcmp, 1) := by decide +kernel
theorem ilaw_231 {xl yl : Int64} (g : z_J Z mlaw R k n Q 232 ls (.int (lg_cmp xl yl) :: st) h) : z_J Z mlaw R k n Q 231 ls (.long yl :: .long xl :: st) h := z_lcmp_id dlaw_231 rfl g
theorem dlaw_232 : decode code 232 = .ok (.ifCond .eq 5, 3) := by decide +kernel
theorem ilaw_232 (kt : x = 0 → z_J Z mlaw R k n Q 237 ls st h) (kf : ¬ x = 0 → z_J Z mlaw R k n Q 235 ls st h) : z_J Z mlaw R k n Q 232 ls (.int x :: st) h := z_if_eq dlaw_232 (tgt := 237) (by decide) rfl kt kf
def blaw_235 : zB := [(235, .iconst 0, 236, nI 0)]
theorem blaw_235_ok : z_ok code 235 blaw_235 236 = true := by decide +kernel
theorem ilaw_235 (hr : z_run 7 blaw_235 ls st = some (ls', st')) (g : z_J Z mlaw R k n Q 236 ls' st' h) : z_J Z mlaw R k n Q 235 ls st h := z_jr blaw_235 blaw_235_ok hr g
theorem dlaw_236 : decode code 236 = .ok (.ireturn, 1) := by decide +kernel
theorem ilaw_236 (hz : narrow .boolean (.int x) = .int x) (hk : k ≤ R.cells) (hs : n ≤ R.slots) (hq : Q (.inl (some (.int x))) h) : z_J Z mlaw R k n Q 236 ls [.int x] h := z_iret (ty := .boolean) dlaw_236 rfl hz hk hs hq
def blaw_237 : zB := [(237, .goto 1225, 1462, nI 0)]
theorem blaw_237_ok : z_ok code 237 blaw_237 1462 = true := by decide +kernel
theorem ilaw_237 (hr : z_run 7 blaw_237 ls st = some (ls', st')) (g : z_J Z mlaw R k n Q 1462 ls' st' h) : z_J Z mlaw R k n Q 237 ls st h := z_jr blaw_237 blaw_237_ok hr g
def blaw_240 : zB := [(240, .aload_n 1, 241, nI 0), (241, .aload_n 0, 242, nI 0), (242, .iload 4, 244, nI 0), (244, .iconst 1, 245, nI 1), (245, .iadd, 246, nI 0)]
theorem blaw_240_ok : z_ok code 240 blaw_240 246 = true := by decide +kernel
theorem ilaw_240 (hr : z_run 7 blaw_240 ls st = some (ls', st')) (g : z_J Z mlaw R k n Q 246 ls' st' h) : z_J Z mlaw R k n Q 240 ls st h := z_jr blaw_240 blaw_240_ok hr g
theorem dlaw_246 : decode code 246 = .ok (.iaload, 1) := by decide +kernel
theorem ilaw_246 (hi : i = nI j) (hj : j < Z.2.1) (hN : Z.2.1 < 2 ^ 31) (g : z_J Z mlaw R k n Q 247 ls (.int (Z.2.2.1 j) :: st) h) : z_J Z mlaw R k n Q 246 ls (.int i :: .ref Z.1 :: st) h := z_sld dlaw_246 rfl hi hj hN g
def blaw_247 : zB := [(247, .aload_n 0, 248, nI 0), (248, .iload 4, 250, nI 0), (250, .iconst 2, 251, nI 2), (251, .iadd, 252, nI 0)]
theorem blaw_247_ok : z_ok code 247 blaw_247 252 = true := by decide +kernel
theorem ilaw_247 (hr : z_run 7 blaw_247 ls st = some (ls', st')) (g : z_J Z mlaw R k n Q 252 ls' st' h) : z_J Z mlaw R k n Q 247 ls st h := z_jr blaw_247 blaw_247_ok hr g
theorem dlaw_252 : decode code 252 = .ok (.iaload, 1) := by decide +kernel
theorem ilaw_252 (hi : i = nI j) (hj : j < Z.2.1) (hN : Z.2.1 < 2 ^ 31) (g : z_J Z mlaw R k n Q 253 ls (.int (Z.2.2.1 j) :: st) h) : z_J Z mlaw R k n Q 252 ls (.int i :: .ref Z.1 :: st) h := z_sld dlaw_252 rfl hi hj hN g
def blaw_253 : zB := [(253, .aload_n 3, 254, nI 0)]
theorem blaw_253_ok : z_ok code 253 blaw_253 254 = true := by decide +kernel
theorem ilaw_253 (hr : z_run 7 blaw_253 ls st = some (ls', st')) (g : z_J Z mlaw R k n Q 254 ls' st' h) : z_J Z mlaw R k n Q 253 ls st h := z_jr blaw_253 blaw_253_ok hr g
theorem dlaw_254 : decode code 254 = .ok (.invokestatic 89, 3) := by decide +kernel
theorem ilaw_254 (ha : z_args 4 st [] = some (As, rest)) (hc : z_chk rest As 5 = true) (hR : z_rm R R' 5 k n) (gc : z_J Z mL_upgrade R' 0 0 Q' 0 As [] h) (kr : ∀ (v : Option Value) (h' : zH), Q' (.inl v) h' → z_J Z mlaw R (k + R'.cells) (n + R'.slots) Q 257 ls (v.toList ++ rest) h') (kx : ∀ (E : String) (h' : zH), Q' (.inr E) h' → z_JX Z mlaw R (k + R'.cells) (n + R'.slots) Q 254 ls E h') : z_J Z mlaw R k n Q 254 ls st h := z_callS (M' := mL_upgrade) dlaw_254 rfl cs_L_89 gw369 ha hR (z_chk1 hc) (z_chk2 hc) (z_chk3 hc) gc kr kx
def blaw_257 : zB := [(257, .istore 5, 259, nI 0), (259, .aload_n 2, 260, nI 0), (260, .aload_n 0, 261, nI 0), (261, .iload 4, 263, nI 0), (263, .iconst 1, 264, nI 1), (264, .iadd, 265, nI 0)]
theorem blaw_257_ok : z_ok code 257 blaw_257 265 = true := by decide +kernel
theorem ilaw_257 (hr : z_run 7 blaw_257 ls st = some (ls', st')) (g : z_J Z mlaw R k n Q 265 ls' st' h) : z_J Z mlaw R k n Q 257 ls st h := z_jr blaw_257 blaw_257_ok hr g
theorem dlaw_265 : decode code 265 = .ok (.iaload, 1) := by decide +kernel
theorem ilaw_265 (hi : i = nI j) (hj : j < Z.2.1) (hN : Z.2.1 < 2 ^ 31) (g : z_J Z mlaw R k n Q 266 ls (.int (Z.2.2.1 j) :: st) h) : z_J Z mlaw R k n Q 265 ls (.int i :: .ref Z.1 :: st) h := z_sld dlaw_265 rfl hi hj hN g
def blaw_266 : zB := [(266, .aload_n 0, 267, nI 0), (267, .iload 4, 269, nI 0), (269, .iconst 2, 270, nI 2), (270, .iadd, 271, nI 0)]
theorem blaw_266_ok : z_ok code 266 blaw_266 271 = true := by decide +kernel
theorem ilaw_266 (hr : z_run 7 blaw_266 ls st = some (ls', st')) (g : z_J Z mlaw R k n Q 271 ls' st' h) : z_J Z mlaw R k n Q 266 ls st h := z_jr blaw_266 blaw_266_ok hr g
theorem dlaw_271 : decode code 271 = .ok (.iaload, 1) := by decide +kernel
theorem ilaw_271 (hi : i = nI j) (hj : j < Z.2.1) (hN : Z.2.1 < 2 ^ 31) (g : z_J Z mlaw R k n Q 272 ls (.int (Z.2.2.1 j) :: st) h) : z_J Z mlaw R k n Q 271 ls (.int i :: .ref Z.1 :: st) h := z_sld dlaw_271 rfl hi hj hN g
theorem dlaw_272 : decode code 272 = .ok (.invokevirtual 92, 3) := by decide +kernel
theorem ilaw_272 (ha : z_args 2 st [] = some (As, .ref b :: rest)) (hc : z_chk rest (.ref b :: As) 4 = true) (hh : h r = some (b, .inr (7, fs))) (hR : z_rm R R' 4 k n) (gc : z_J Z mX6_upgrade R' 0 0 Q' 0 (.ref b :: As) [] h) (kr : ∀ (v : Option Value) (h' : zH), Q' (.inl v) h' → z_J Z mlaw R (k + R'.cells) (n + R'.slots) Q 275 ls (v.toList ++ rest) h') (kx : ∀ (E : String) (h' : zH), Q' (.inr E) h' → z_JX Z mlaw R (k + R'.cells) (n + R'.slots) Q 272 ls E h') : z_J Z mlaw R k n Q 272 ls st h := z_callV (M' := mX6_upgrade) dlaw_272 rfl cs_L_92 rfl gw804 gw805 ha hh (ci := 7) rfl hR (z_chk1 hc) (z_chk2 hc) (z_chk3 hc) gc kr kx
def blaw_275 : zB := [(275, .istore 6, 277, nI 0), (277, .aload_n 2, 278, nI 0)]
theorem blaw_275_ok : z_ok code 275 blaw_275 278 = true := by decide +kernel
theorem ilaw_275 (hr : z_run 7 blaw_275 ls st = some (ls', st')) (g : z_J Z mlaw R k n Q 278 ls' st' h) : z_J Z mlaw R k n Q 275 ls st h := z_jr blaw_275 blaw_275_ok hr g
theorem dlaw_278 : decode code 278 = .ok (.invokevirtual 85, 3) := by decide +kernel
theorem ilaw_278 (ha : z_args 0 st [] = some (As, .ref b :: rest)) (hc : z_chk rest (.ref b :: As) 1 = true) (hh : h r = some (b, .inr (7, fs))) (hR : z_rm R R' 1 k n) (gc : z_J Z mX6_thrown R' 0 0 Q' 0 (.ref b :: As) [] h) (kr : ∀ (v : Option Value) (h' : zH), Q' (.inl v) h' → z_J Z mlaw R (k + R'.cells) (n + R'.slots) Q 281 ls (v.toList ++ rest) h') (kx : ∀ (E : String) (h' : zH), Q' (.inr E) h' → z_JX Z mlaw R (k + R'.cells) (n + R'.slots) Q 278 ls E h') : z_J Z mlaw R k n Q 278 ls st h := z_callV (M' := mX6_thrown) dlaw_278 rfl cs_L_85 rfl gw793 gw794 ha hh (ci := 7) rfl hR (z_chk1 hc) (z_chk2 hc) (z_chk3 hc) gc kr kx
def blaw_281 : zB := [(281, .iload 5, 283, nI 0)]
theorem blaw_281_ok : z_ok code 281 blaw_281 283 = true := by decide +kernel
theorem ilaw_281 (hr : z_run 7 blaw_281 ls st = some (ls', st')) (g : z_J Z mlaw R k n Q 283 ls' st' h) : z_J Z mlaw R k n Q 281 ls st h := z_jr blaw_281 blaw_281_ok hr g
theorem dlaw_283 : decode code 283 = .ok (.if_icmp .eq 5, 3) := by decide +kernel
theorem ilaw_283 (kt : x = y → z_J Z mlaw R k n Q 288 ls st h) (kf : ¬ x = y → z_J Z mlaw R k n Q 286 ls st h) : z_J Z mlaw R k n Q 283 ls (.int y :: .int x :: st) h := z_ic_eq dlaw_283 (tgt := 288) (by decide) rfl kt kf
def blaw_286 : zB := [(286, .iconst 0, 287, nI 0)]
theorem blaw_286_ok : z_ok code 286 blaw_286 287 = true := by decide +kernel
theorem ilaw_286 (hr : z_run 7 blaw_286 ls st = some (ls', st')) (g : z_J Z mlaw R k n Q 287 ls' st' h) : z_J Z mlaw R k n Q 286 ls st h := z_jr blaw_286 blaw_286_ok hr g
theorem dlaw_287 : decode code 287 = .ok (.ireturn, 1) := by decide +kernel
theorem ilaw_287 (hz : narrow .boolean (.int x) = .int x) (hk : k ≤ R.cells) (hs : n ≤ R.slots) (hq : Q (.inl (some (.int x))) h) : z_J Z mlaw R k n Q 287 ls [.int x] h := z_iret (ty := .boolean) dlaw_287 rfl hz hk hs hq
def blaw_288 : zB := [(288, .iload 5, 290, nI 0)]
theorem blaw_288_ok : z_ok code 288 blaw_288 290 = true := by decide +kernel
theorem ilaw_288 (hr : z_run 7 blaw_288 ls st = some (ls', st')) (g : z_J Z mlaw R k n Q 290 ls' st' h) : z_J Z mlaw R k n Q 288 ls st h := z_jr blaw_288 blaw_288_ok hr g
theorem dlaw_290 : decode code 290 = .ok (.ifCond .ne 15, 3) := by decide +kernel
theorem ilaw_290 (kt : ¬ x = 0 → z_J Z mlaw R k n Q 305 ls st h) (kf : x = 0 → z_J Z mlaw R k n Q 293 ls st h) : z_J Z mlaw R k n Q 290 ls (.int x :: st) h := z_if_ne dlaw_290 (tgt := 305) (by decide) rfl kt kf
def blaw_293 : zB := [(293, .aload_n 3, 294, nI 0), (294, .iconst 0, 295, nI 0)]
theorem blaw_293_ok : z_ok code 293 blaw_293 295 = true := by decide +kernel
theorem ilaw_293 (hr : z_run 7 blaw_293 ls st = some (ls', st')) (g : z_J Z mlaw R k n Q 295 ls' st' h) : z_J Z mlaw R k n Q 293 ls st h := z_jr blaw_293 blaw_293_ok hr g
theorem dlaw_295 : decode code 295 = .ok (.laload, 1) := by decide +kernel
theorem ilaw_295 {f : Nat → Int64} (hh : h r = some (a, .inl (2, N, .inr (.inl f)))) (hi : i = nI j) (hj : j < N) (hN : N < 2 ^ 31) (g : z_J Z mlaw R k n Q 296 ls (.long (f j) :: st) h) : z_J Z mlaw R k n Q 295 ls (.int i :: .ref a :: st) h := z_lald dlaw_295 rfl hh hi hj hN g
def blaw_296 : zB := [(296, .iload 6, 298, nI 0), (298, .i2l, 299, nI 0)]
theorem blaw_296_ok : z_ok code 296 blaw_296 299 = true := by decide +kernel
theorem ilaw_296 (hr : z_run 7 blaw_296 ls st = some (ls', st')) (g : z_J Z mlaw R k n Q 299 ls' st' h) : z_J Z mlaw R k n Q 296 ls st h := z_jr blaw_296 blaw_296_ok hr g
theorem dlaw_299 : decode code 299 = .ok (.lcmp, 1) := by decide +kernel
theorem ilaw_299 {xl yl : Int64} (g : z_J Z mlaw R k n Q 300 ls (.int (lg_cmp xl yl) :: st) h) : z_J Z mlaw R k n Q 299 ls (.long yl :: .long xl :: st) h := z_lcmp_id dlaw_299 rfl g
theorem dlaw_300 : decode code 300 = .ok (.ifCond .eq 5, 3) := by decide +kernel
theorem ilaw_300 (kt : x = 0 → z_J Z mlaw R k n Q 305 ls st h) (kf : ¬ x = 0 → z_J Z mlaw R k n Q 303 ls st h) : z_J Z mlaw R k n Q 300 ls (.int x :: st) h := z_if_eq dlaw_300 (tgt := 305) (by decide) rfl kt kf
def blaw_303 : zB := [(303, .iconst 0, 304, nI 0)]
theorem blaw_303_ok : z_ok code 303 blaw_303 304 = true := by decide +kernel
theorem ilaw_303 (hr : z_run 7 blaw_303 ls st = some (ls', st')) (g : z_J Z mlaw R k n Q 304 ls' st' h) : z_J Z mlaw R k n Q 303 ls st h := z_jr blaw_303 blaw_303_ok hr g
theorem dlaw_304 : decode code 304 = .ok (.ireturn, 1) := by decide +kernel
theorem ilaw_304 (hz : narrow .boolean (.int x) = .int x) (hk : k ≤ R.cells) (hs : n ≤ R.slots) (hq : Q (.inl (some (.int x))) h) : z_J Z mlaw R k n Q 304 ls [.int x] h := z_iret (ty := .boolean) dlaw_304 rfl hz hk hs hq
def blaw_305 : zB := [(305, .goto 1157, 1462, nI 0)]
theorem blaw_305_ok : z_ok code 305 blaw_305 1462 = true := by decide +kernel
theorem ilaw_305 (hr : z_run 7 blaw_305 ls st = some (ls', st')) (g : z_J Z mlaw R k n Q 1462 ls' st' h) : z_J Z mlaw R k n Q 305 ls st h := z_jr blaw_305 blaw_305_ok hr g
def blaw_308 : zB := [(308, .aload_n 1, 309, nI 0), (309, .aload_n 0, 310, nI 0), (310, .iload 4, 312, nI 0), (312, .iconst 1, 313, nI 1), (313, .iadd, 314, nI 0)]
theorem blaw_308_ok : z_ok code 308 blaw_308 314 = true := by decide +kernel
theorem ilaw_308 (hr : z_run 7 blaw_308 ls st = some (ls', st')) (g : z_J Z mlaw R k n Q 314 ls' st' h) : z_J Z mlaw R k n Q 308 ls st h := z_jr blaw_308 blaw_308_ok hr g
theorem dlaw_314 : decode code 314 = .ok (.iaload, 1) := by decide +kernel
theorem ilaw_314 (hi : i = nI j) (hj : j < Z.2.1) (hN : Z.2.1 < 2 ^ 31) (g : z_J Z mlaw R k n Q 315 ls (.int (Z.2.2.1 j) :: st) h) : z_J Z mlaw R k n Q 314 ls (.int i :: .ref Z.1 :: st) h := z_sld dlaw_314 rfl hi hj hN g
def blaw_315 : zB := [(315, .aload_n 0, 316, nI 0), (316, .iload 4, 318, nI 0), (318, .iconst 2, 319, nI 2), (319, .iadd, 320, nI 0)]
theorem blaw_315_ok : z_ok code 315 blaw_315 320 = true := by decide +kernel
theorem ilaw_315 (hr : z_run 7 blaw_315 ls st = some (ls', st')) (g : z_J Z mlaw R k n Q 320 ls' st' h) : z_J Z mlaw R k n Q 315 ls st h := z_jr blaw_315 blaw_315_ok hr g
theorem dlaw_320 : decode code 320 = .ok (.iaload, 1) := by decide +kernel
theorem ilaw_320 (hi : i = nI j) (hj : j < Z.2.1) (hN : Z.2.1 < 2 ^ 31) (g : z_J Z mlaw R k n Q 321 ls (.int (Z.2.2.1 j) :: st) h) : z_J Z mlaw R k n Q 320 ls (.int i :: .ref Z.1 :: st) h := z_sld dlaw_320 rfl hi hj hN g
def blaw_321 : zB := [(321, .aload_n 3, 322, nI 0)]
theorem blaw_321_ok : z_ok code 321 blaw_321 322 = true := by decide +kernel
theorem ilaw_321 (hr : z_run 7 blaw_321 ls st = some (ls', st')) (g : z_J Z mlaw R k n Q 322 ls' st' h) : z_J Z mlaw R k n Q 321 ls st h := z_jr blaw_321 blaw_321_ok hr g
theorem dlaw_322 : decode code 322 = .ok (.invokestatic 93, 3) := by decide +kernel
theorem ilaw_322 (ha : z_args 4 st [] = some (As, rest)) (hc : z_chk rest As 5 = true) (hR : z_rm R R' 5 k n) (gc : z_J Z mL_setUnits R' 0 0 Q' 0 As [] h) (kr : ∀ (v : Option Value) (h' : zH), Q' (.inl v) h' → z_J Z mlaw R (k + R'.cells) (n + R'.slots) Q 325 ls (v.toList ++ rest) h') (kx : ∀ (E : String) (h' : zH), Q' (.inr E) h' → z_JX Z mlaw R (k + R'.cells) (n + R'.slots) Q 322 ls E h') : z_J Z mlaw R k n Q 322 ls st h := z_callS (M' := mL_setUnits) dlaw_322 rfl cs_L_93 gw412 ha hR (z_chk1 hc) (z_chk2 hc) (z_chk3 hc) gc kr kx
def blaw_325 : zB := [(325, .istore 5, 327, nI 0), (327, .aload_n 2, 328, nI 0), (328, .aload_n 0, 329, nI 0), (329, .iload 4, 331, nI 0), (331, .iconst 1, 332, nI 1), (332, .iadd, 333, nI 0)]
theorem blaw_325_ok : z_ok code 325 blaw_325 333 = true := by decide +kernel
theorem ilaw_325 (hr : z_run 7 blaw_325 ls st = some (ls', st')) (g : z_J Z mlaw R k n Q 333 ls' st' h) : z_J Z mlaw R k n Q 325 ls st h := z_jr blaw_325 blaw_325_ok hr g
theorem dlaw_333 : decode code 333 = .ok (.iaload, 1) := by decide +kernel
theorem ilaw_333 (hi : i = nI j) (hj : j < Z.2.1) (hN : Z.2.1 < 2 ^ 31) (g : z_J Z mlaw R k n Q 334 ls (.int (Z.2.2.1 j) :: st) h) : z_J Z mlaw R k n Q 333 ls (.int i :: .ref Z.1 :: st) h := z_sld dlaw_333 rfl hi hj hN g
def blaw_334 : zB := [(334, .aload_n 0, 335, nI 0), (335, .iload 4, 337, nI 0), (337, .iconst 2, 338, nI 2), (338, .iadd, 339, nI 0)]
theorem blaw_334_ok : z_ok code 334 blaw_334 339 = true := by decide +kernel
theorem ilaw_334 (hr : z_run 7 blaw_334 ls st = some (ls', st')) (g : z_J Z mlaw R k n Q 339 ls' st' h) : z_J Z mlaw R k n Q 334 ls st h := z_jr blaw_334 blaw_334_ok hr g
theorem dlaw_339 : decode code 339 = .ok (.iaload, 1) := by decide +kernel
theorem ilaw_339 (hi : i = nI j) (hj : j < Z.2.1) (hN : Z.2.1 < 2 ^ 31) (g : z_J Z mlaw R k n Q 340 ls (.int (Z.2.2.1 j) :: st) h) : z_J Z mlaw R k n Q 339 ls (.int i :: .ref Z.1 :: st) h := z_sld dlaw_339 rfl hi hj hN g
theorem dlaw_340 : decode code 340 = .ok (.invokevirtual 95, 3) := by decide +kernel
theorem ilaw_340 (ha : z_args 2 st [] = some (As, .ref b :: rest)) (hc : z_chk rest (.ref b :: As) 4 = true) (hh : h r = some (b, .inr (7, fs))) (hR : z_rm R R' 4 k n) (gc : z_J Z mX6_setUnits R' 0 0 Q' 0 (.ref b :: As) [] h) (kr : ∀ (v : Option Value) (h' : zH), Q' (.inl v) h' → z_J Z mlaw R (k + R'.cells) (n + R'.slots) Q 343 ls (v.toList ++ rest) h') (kx : ∀ (E : String) (h' : zH), Q' (.inr E) h' → z_JX Z mlaw R (k + R'.cells) (n + R'.slots) Q 340 ls E h') : z_J Z mlaw R k n Q 340 ls st h := z_callV (M' := mX6_setUnits) dlaw_340 rfl cs_L_95 rfl gw812 gw813 ha hh (ci := 7) rfl hR (z_chk1 hc) (z_chk2 hc) (z_chk3 hc) gc kr kx
def blaw_343 : zB := [(343, .istore 6, 345, nI 0), (345, .aload_n 2, 346, nI 0)]
theorem blaw_343_ok : z_ok code 343 blaw_343 346 = true := by decide +kernel
theorem ilaw_343 (hr : z_run 7 blaw_343 ls st = some (ls', st')) (g : z_J Z mlaw R k n Q 346 ls' st' h) : z_J Z mlaw R k n Q 343 ls st h := z_jr blaw_343 blaw_343_ok hr g
theorem dlaw_346 : decode code 346 = .ok (.invokevirtual 85, 3) := by decide +kernel
theorem ilaw_346 (ha : z_args 0 st [] = some (As, .ref b :: rest)) (hc : z_chk rest (.ref b :: As) 1 = true) (hh : h r = some (b, .inr (7, fs))) (hR : z_rm R R' 1 k n) (gc : z_J Z mX6_thrown R' 0 0 Q' 0 (.ref b :: As) [] h) (kr : ∀ (v : Option Value) (h' : zH), Q' (.inl v) h' → z_J Z mlaw R (k + R'.cells) (n + R'.slots) Q 349 ls (v.toList ++ rest) h') (kx : ∀ (E : String) (h' : zH), Q' (.inr E) h' → z_JX Z mlaw R (k + R'.cells) (n + R'.slots) Q 346 ls E h') : z_J Z mlaw R k n Q 346 ls st h := z_callV (M' := mX6_thrown) dlaw_346 rfl cs_L_85 rfl gw793 gw794 ha hh (ci := 7) rfl hR (z_chk1 hc) (z_chk2 hc) (z_chk3 hc) gc kr kx
def blaw_349 : zB := [(349, .iload 5, 351, nI 0)]
theorem blaw_349_ok : z_ok code 349 blaw_349 351 = true := by decide +kernel
theorem ilaw_349 (hr : z_run 7 blaw_349 ls st = some (ls', st')) (g : z_J Z mlaw R k n Q 351 ls' st' h) : z_J Z mlaw R k n Q 349 ls st h := z_jr blaw_349 blaw_349_ok hr g
theorem dlaw_351 : decode code 351 = .ok (.if_icmp .eq 5, 3) := by decide +kernel
theorem ilaw_351 (kt : x = y → z_J Z mlaw R k n Q 356 ls st h) (kf : ¬ x = y → z_J Z mlaw R k n Q 354 ls st h) : z_J Z mlaw R k n Q 351 ls (.int y :: .int x :: st) h := z_ic_eq dlaw_351 (tgt := 356) (by decide) rfl kt kf
def blaw_354 : zB := [(354, .iconst 0, 355, nI 0)]
theorem blaw_354_ok : z_ok code 354 blaw_354 355 = true := by decide +kernel
theorem ilaw_354 (hr : z_run 7 blaw_354 ls st = some (ls', st')) (g : z_J Z mlaw R k n Q 355 ls' st' h) : z_J Z mlaw R k n Q 354 ls st h := z_jr blaw_354 blaw_354_ok hr g
theorem dlaw_355 : decode code 355 = .ok (.ireturn, 1) := by decide +kernel
theorem ilaw_355 (hz : narrow .boolean (.int x) = .int x) (hk : k ≤ R.cells) (hs : n ≤ R.slots) (hq : Q (.inl (some (.int x))) h) : z_J Z mlaw R k n Q 355 ls [.int x] h := z_iret (ty := .boolean) dlaw_355 rfl hz hk hs hq
def blaw_356 : zB := [(356, .iload 5, 358, nI 0)]
theorem blaw_356_ok : z_ok code 356 blaw_356 358 = true := by decide +kernel
theorem ilaw_356 (hr : z_run 7 blaw_356 ls st = some (ls', st')) (g : z_J Z mlaw R k n Q 358 ls' st' h) : z_J Z mlaw R k n Q 356 ls st h := z_jr blaw_356 blaw_356_ok hr g
theorem dlaw_358 : decode code 358 = .ok (.ifCond .ne 15, 3) := by decide +kernel
theorem ilaw_358 (kt : ¬ x = 0 → z_J Z mlaw R k n Q 373 ls st h) (kf : x = 0 → z_J Z mlaw R k n Q 361 ls st h) : z_J Z mlaw R k n Q 358 ls (.int x :: st) h := z_if_ne dlaw_358 (tgt := 373) (by decide) rfl kt kf
def blaw_361 : zB := [(361, .aload_n 3, 362, nI 0), (362, .iconst 0, 363, nI 0)]
theorem blaw_361_ok : z_ok code 361 blaw_361 363 = true := by decide +kernel
theorem ilaw_361 (hr : z_run 7 blaw_361 ls st = some (ls', st')) (g : z_J Z mlaw R k n Q 363 ls' st' h) : z_J Z mlaw R k n Q 361 ls st h := z_jr blaw_361 blaw_361_ok hr g
theorem dlaw_363 : decode code 363 = .ok (.laload, 1) := by decide +kernel
theorem ilaw_363 {f : Nat → Int64} (hh : h r = some (a, .inl (2, N, .inr (.inl f)))) (hi : i = nI j) (hj : j < N) (hN : N < 2 ^ 31) (g : z_J Z mlaw R k n Q 364 ls (.long (f j) :: st) h) : z_J Z mlaw R k n Q 363 ls (.int i :: .ref a :: st) h := z_lald dlaw_363 rfl hh hi hj hN g
def blaw_364 : zB := [(364, .iload 6, 366, nI 0), (366, .i2l, 367, nI 0)]
theorem blaw_364_ok : z_ok code 364 blaw_364 367 = true := by decide +kernel
theorem ilaw_364 (hr : z_run 7 blaw_364 ls st = some (ls', st')) (g : z_J Z mlaw R k n Q 367 ls' st' h) : z_J Z mlaw R k n Q 364 ls st h := z_jr blaw_364 blaw_364_ok hr g
theorem dlaw_367 : decode code 367 = .ok (.lcmp, 1) := by decide +kernel
theorem ilaw_367 {xl yl : Int64} (g : z_J Z mlaw R k n Q 368 ls (.int (lg_cmp xl yl) :: st) h) : z_J Z mlaw R k n Q 367 ls (.long yl :: .long xl :: st) h := z_lcmp_id dlaw_367 rfl g
theorem dlaw_368 : decode code 368 = .ok (.ifCond .eq 5, 3) := by decide +kernel
theorem ilaw_368 (kt : x = 0 → z_J Z mlaw R k n Q 373 ls st h) (kf : ¬ x = 0 → z_J Z mlaw R k n Q 371 ls st h) : z_J Z mlaw R k n Q 368 ls (.int x :: st) h := z_if_eq dlaw_368 (tgt := 373) (by decide) rfl kt kf
def blaw_371 : zB := [(371, .iconst 0, 372, nI 0)]
theorem blaw_371_ok : z_ok code 371 blaw_371 372 = true := by decide +kernel
theorem ilaw_371 (hr : z_run 7 blaw_371 ls st = some (ls', st')) (g : z_J Z mlaw R k n Q 372 ls' st' h) : z_J Z mlaw R k n Q 371 ls st h := z_jr blaw_371 blaw_371_ok hr g
theorem dlaw_372 : decode code 372 = .ok (.ireturn, 1) := by decide +kernel
theorem ilaw_372 (hz : narrow .boolean (.int x) = .int x) (hk : k ≤ R.cells) (hs : n ≤ R.slots) (hq : Q (.inl (some (.int x))) h) : z_J Z mlaw R k n Q 372 ls [.int x] h := z_iret (ty := .boolean) dlaw_372 rfl hz hk hs hq
def blaw_373 : zB := [(373, .goto 1089, 1462, nI 0)]
theorem blaw_373_ok : z_ok code 373 blaw_373 1462 = true := by decide +kernel
theorem ilaw_373 (hr : z_run 7 blaw_373 ls st = some (ls', st')) (g : z_J Z mlaw R k n Q 1462 ls' st' h) : z_J Z mlaw R k n Q 373 ls st h := z_jr blaw_373 blaw_373_ok hr g
def blaw_376 : zB := [(376, .aload_n 1, 377, nI 0)]
theorem blaw_376_ok : z_ok code 376 blaw_376 377 = true := by decide +kernel
theorem ilaw_376 (hr : z_run 7 blaw_376 ls st = some (ls', st')) (g : z_J Z mlaw R k n Q 377 ls' st' h) : z_J Z mlaw R k n Q 376 ls st h := z_jr blaw_376 blaw_376_ok hr g
theorem dlaw_377 : decode code 377 = .ok (.invokevirtual 96, 3) := by decide +kernel
theorem ilaw_377 (ha : z_args 0 st [] = some (As, .ref b :: rest)) (hc : z_chk rest (.ref b :: As) 1 = true) (hh : h r = some (b, .inr (6, fs))) (hR : z_rm R R' 1 k n) (gc : z_J Z mX5_rights R' 0 0 Q' 0 (.ref b :: As) [] h) (kr : ∀ (v : Option Value) (h' : zH), Q' (.inl v) h' → z_J Z mlaw R (k + R'.cells) (n + R'.slots) Q 380 ls (v.toList ++ rest) h') (kx : ∀ (E : String) (h' : zH), Q' (.inr E) h' → z_JX Z mlaw R (k + R'.cells) (n + R'.slots) Q 377 ls E h') : z_J Z mlaw R k n Q 377 ls st h := z_callV (M' := mX5_rights) dlaw_377 rfl cs_L_96 rfl gw179 gw180 ha hh (ci := 6) rfl hR (z_chk1 hc) (z_chk2 hc) (z_chk3 hc) gc kr kx
def blaw_380 : zB := [(380, .aload_n 2, 381, nI 0)]
theorem blaw_380_ok : z_ok code 380 blaw_380 381 = true := by decide +kernel
theorem ilaw_380 (hr : z_run 7 blaw_380 ls st = some (ls', st')) (g : z_J Z mlaw R k n Q 381 ls' st' h) : z_J Z mlaw R k n Q 380 ls st h := z_jr blaw_380 blaw_380_ok hr g
theorem dlaw_381 : decode code 381 = .ok (.invokevirtual 99, 3) := by decide +kernel
theorem ilaw_381 (ha : z_args 0 st [] = some (As, .ref b :: rest)) (hc : z_chk rest (.ref b :: As) 1 = true) (hh : h r = some (b, .inr (7, fs))) (hR : z_rm R R' 1 k n) (gc : z_J Z mX6_rights R' 0 0 Q' 0 (.ref b :: As) [] h) (kr : ∀ (v : Option Value) (h' : zH), Q' (.inl v) h' → z_J Z mlaw R (k + R'.cells) (n + R'.slots) Q 384 ls (v.toList ++ rest) h') (kx : ∀ (E : String) (h' : zH), Q' (.inr E) h' → z_JX Z mlaw R (k + R'.cells) (n + R'.slots) Q 381 ls E h') : z_J Z mlaw R k n Q 381 ls st h := z_callV (M' := mX6_rights) dlaw_381 rfl cs_L_99 rfl gw816 gw817 ha hh (ci := 7) rfl hR (z_chk1 hc) (z_chk2 hc) (z_chk3 hc) gc kr kx
theorem dlaw_384 : decode code 384 = .ok (.if_icmp .eq 1078, 3) := by decide +kernel
theorem ilaw_384 (kt : x = y → z_J Z mlaw R k n Q 1462 ls st h) (kf : ¬ x = y → z_J Z mlaw R k n Q 387 ls st h) : z_J Z mlaw R k n Q 384 ls (.int y :: .int x :: st) h := z_ic_eq dlaw_384 (tgt := 1462) (by decide) rfl kt kf
def blaw_387 : zB := [(387, .iconst 0, 388, nI 0)]
theorem blaw_387_ok : z_ok code 387 blaw_387 388 = true := by decide +kernel
theorem ilaw_387 (hr : z_run 7 blaw_387 ls st = some (ls', st')) (g : z_J Z mlaw R k n Q 388 ls' st' h) : z_J Z mlaw R k n Q 387 ls st h := z_jr blaw_387 blaw_387_ok hr g
theorem dlaw_388 : decode code 388 = .ok (.ireturn, 1) := by decide +kernel
theorem ilaw_388 (hz : narrow .boolean (.int x) = .int x) (hk : k ≤ R.cells) (hs : n ≤ R.slots) (hq : Q (.inl (some (.int x))) h) : z_J Z mlaw R k n Q 388 ls [.int x] h := z_iret (ty := .boolean) dlaw_388 rfl hz hk hs hq
def blaw_389 : zB := [(389, .aload_n 1, 390, nI 0), (390, .aload_n 0, 391, nI 0), (391, .iload 4, 393, nI 0), (393, .iconst 1, 394, nI 1), (394, .iadd, 395, nI 0)]
theorem blaw_389_ok : z_ok code 389 blaw_389 395 = true := by decide +kernel
theorem ilaw_389 (hr : z_run 7 blaw_389 ls st = some (ls', st')) (g : z_J Z mlaw R k n Q 395 ls' st' h) : z_J Z mlaw R k n Q 389 ls st h := z_jr blaw_389 blaw_389_ok hr g
theorem dlaw_395 : decode code 395 = .ok (.iaload, 1) := by decide +kernel
theorem ilaw_395 (hi : i = nI j) (hj : j < Z.2.1) (hN : Z.2.1 < 2 ^ 31) (g : z_J Z mlaw R k n Q 396 ls (.int (Z.2.2.1 j) :: st) h) : z_J Z mlaw R k n Q 395 ls (.int i :: .ref Z.1 :: st) h := z_sld dlaw_395 rfl hi hj hN g
def blaw_396 : zB := [(396, .aload_n 0, 397, nI 0), (397, .iload 4, 399, nI 0), (399, .iconst 2, 400, nI 2), (400, .iadd, 401, nI 0)]
theorem blaw_396_ok : z_ok code 396 blaw_396 401 = true := by decide +kernel
theorem ilaw_396 (hr : z_run 7 blaw_396 ls st = some (ls', st')) (g : z_J Z mlaw R k n Q 401 ls' st' h) : z_J Z mlaw R k n Q 396 ls st h := z_jr blaw_396 blaw_396_ok hr g
theorem dlaw_401 : decode code 401 = .ok (.iaload, 1) := by decide +kernel
theorem ilaw_401 (hi : i = nI j) (hj : j < Z.2.1) (hN : Z.2.1 < 2 ^ 31) (g : z_J Z mlaw R k n Q 402 ls (.int (Z.2.2.1 j) :: st) h) : z_J Z mlaw R k n Q 401 ls (.int i :: .ref Z.1 :: st) h := z_sld dlaw_401 rfl hi hj hN g
def blaw_402 : zB := [(402, .aload_n 3, 403, nI 0)]
theorem blaw_402_ok : z_ok code 402 blaw_402 403 = true := by decide +kernel
theorem ilaw_402 (hr : z_run 7 blaw_402 ls st = some (ls', st')) (g : z_J Z mlaw R k n Q 403 ls' st' h) : z_J Z mlaw R k n Q 402 ls st h := z_jr blaw_402 blaw_402_ok hr g
theorem dlaw_403 : decode code 403 = .ok (.invokestatic 100, 3) := by decide +kernel
theorem ilaw_403 (ha : z_args 4 st [] = some (As, rest)) (hc : z_chk rest As 5 = true) (hR : z_rm R R' 5 k n) (gc : z_J Z mL_addMachine R' 0 0 Q' 0 As [] h) (kr : ∀ (v : Option Value) (h' : zH), Q' (.inl v) h' → z_J Z mlaw R (k + R'.cells) (n + R'.slots) Q 406 ls (v.toList ++ rest) h') (kx : ∀ (E : String) (h' : zH), Q' (.inr E) h' → z_JX Z mlaw R (k + R'.cells) (n + R'.slots) Q 403 ls E h') : z_J Z mlaw R k n Q 403 ls st h := z_callS (M' := mL_addMachine) dlaw_403 rfl cs_L_100 gw419 ha hR (z_chk1 hc) (z_chk2 hc) (z_chk3 hc) gc kr kx
def blaw_406 : zB := [(406, .istore 5, 408, nI 0), (408, .aload_n 2, 409, nI 0), (409, .aload_n 0, 410, nI 0), (410, .iload 4, 412, nI 0), (412, .iconst 1, 413, nI 1), (413, .iadd, 414, nI 0)]
theorem blaw_406_ok : z_ok code 406 blaw_406 414 = true := by decide +kernel
theorem ilaw_406 (hr : z_run 7 blaw_406 ls st = some (ls', st')) (g : z_J Z mlaw R k n Q 414 ls' st' h) : z_J Z mlaw R k n Q 406 ls st h := z_jr blaw_406 blaw_406_ok hr g
theorem dlaw_414 : decode code 414 = .ok (.iaload, 1) := by decide +kernel
theorem ilaw_414 (hi : i = nI j) (hj : j < Z.2.1) (hN : Z.2.1 < 2 ^ 31) (g : z_J Z mlaw R k n Q 415 ls (.int (Z.2.2.1 j) :: st) h) : z_J Z mlaw R k n Q 414 ls (.int i :: .ref Z.1 :: st) h := z_sld dlaw_414 rfl hi hj hN g
def blaw_415 : zB := [(415, .aload_n 0, 416, nI 0), (416, .iload 4, 418, nI 0), (418, .iconst 2, 419, nI 2), (419, .iadd, 420, nI 0)]
theorem blaw_415_ok : z_ok code 415 blaw_415 420 = true := by decide +kernel
theorem ilaw_415 (hr : z_run 7 blaw_415 ls st = some (ls', st')) (g : z_J Z mlaw R k n Q 420 ls' st' h) : z_J Z mlaw R k n Q 415 ls st h := z_jr blaw_415 blaw_415_ok hr g
theorem dlaw_420 : decode code 420 = .ok (.iaload, 1) := by decide +kernel
theorem ilaw_420 (hi : i = nI j) (hj : j < Z.2.1) (hN : Z.2.1 < 2 ^ 31) (g : z_J Z mlaw R k n Q 421 ls (.int (Z.2.2.1 j) :: st) h) : z_J Z mlaw R k n Q 420 ls (.int i :: .ref Z.1 :: st) h := z_sld dlaw_420 rfl hi hj hN g
theorem dlaw_421 : decode code 421 = .ok (.invokevirtual 102, 3) := by decide +kernel
theorem ilaw_421 (ha : z_args 2 st [] = some (As, .ref b :: rest)) (hc : z_chk rest (.ref b :: As) 3 = true) (hh : h r = some (b, .inr (7, fs))) (hR : z_rm R R' 3 k n) (gc : z_J Z mX6_addMachine R' 0 0 Q' 0 (.ref b :: As) [] h) (kr : ∀ (v : Option Value) (h' : zH), Q' (.inl v) h' → z_J Z mlaw R (k + R'.cells) (n + R'.slots) Q 424 ls (v.toList ++ rest) h') (kx : ∀ (E : String) (h' : zH), Q' (.inr E) h' → z_JX Z mlaw R (k + R'.cells) (n + R'.slots) Q 421 ls E h') : z_J Z mlaw R k n Q 421 ls st h := z_callV (M' := mX6_addMachine) dlaw_421 rfl cs_L_102 rfl gw820 gw821 ha hh (ci := 7) rfl hR (z_chk1 hc) (z_chk2 hc) (z_chk3 hc) gc kr kx
def blaw_424 : zB := [(424, .istore 6, 426, nI 0), (426, .aload_n 2, 427, nI 0)]
theorem blaw_424_ok : z_ok code 424 blaw_424 427 = true := by decide +kernel
theorem ilaw_424 (hr : z_run 7 blaw_424 ls st = some (ls', st')) (g : z_J Z mlaw R k n Q 427 ls' st' h) : z_J Z mlaw R k n Q 424 ls st h := z_jr blaw_424 blaw_424_ok hr g
theorem dlaw_427 : decode code 427 = .ok (.invokevirtual 85, 3) := by decide +kernel
theorem ilaw_427 (ha : z_args 0 st [] = some (As, .ref b :: rest)) (hc : z_chk rest (.ref b :: As) 1 = true) (hh : h r = some (b, .inr (7, fs))) (hR : z_rm R R' 1 k n) (gc : z_J Z mX6_thrown R' 0 0 Q' 0 (.ref b :: As) [] h) (kr : ∀ (v : Option Value) (h' : zH), Q' (.inl v) h' → z_J Z mlaw R (k + R'.cells) (n + R'.slots) Q 430 ls (v.toList ++ rest) h') (kx : ∀ (E : String) (h' : zH), Q' (.inr E) h' → z_JX Z mlaw R (k + R'.cells) (n + R'.slots) Q 427 ls E h') : z_J Z mlaw R k n Q 427 ls st h := z_callV (M' := mX6_thrown) dlaw_427 rfl cs_L_85 rfl gw793 gw794 ha hh (ci := 7) rfl hR (z_chk1 hc) (z_chk2 hc) (z_chk3 hc) gc kr kx
def blaw_430 : zB := [(430, .iload 5, 432, nI 0)]
theorem blaw_430_ok : z_ok code 430 blaw_430 432 = true := by decide +kernel
theorem ilaw_430 (hr : z_run 7 blaw_430 ls st = some (ls', st')) (g : z_J Z mlaw R k n Q 432 ls' st' h) : z_J Z mlaw R k n Q 430 ls st h := z_jr blaw_430 blaw_430_ok hr g
theorem dlaw_432 : decode code 432 = .ok (.if_icmp .eq 5, 3) := by decide +kernel
theorem ilaw_432 (kt : x = y → z_J Z mlaw R k n Q 437 ls st h) (kf : ¬ x = y → z_J Z mlaw R k n Q 435 ls st h) : z_J Z mlaw R k n Q 432 ls (.int y :: .int x :: st) h := z_ic_eq dlaw_432 (tgt := 437) (by decide) rfl kt kf
def blaw_435 : zB := [(435, .iconst 0, 436, nI 0)]
theorem blaw_435_ok : z_ok code 435 blaw_435 436 = true := by decide +kernel
theorem ilaw_435 (hr : z_run 7 blaw_435 ls st = some (ls', st')) (g : z_J Z mlaw R k n Q 436 ls' st' h) : z_J Z mlaw R k n Q 435 ls st h := z_jr blaw_435 blaw_435_ok hr g
theorem dlaw_436 : decode code 436 = .ok (.ireturn, 1) := by decide +kernel
theorem ilaw_436 (hz : narrow .boolean (.int x) = .int x) (hk : k ≤ R.cells) (hs : n ≤ R.slots) (hq : Q (.inl (some (.int x))) h) : z_J Z mlaw R k n Q 436 ls [.int x] h := z_iret (ty := .boolean) dlaw_436 rfl hz hk hs hq
def blaw_437 : zB := [(437, .iload 5, 439, nI 0)]
theorem blaw_437_ok : z_ok code 437 blaw_437 439 = true := by decide +kernel
theorem ilaw_437 (hr : z_run 7 blaw_437 ls st = some (ls', st')) (g : z_J Z mlaw R k n Q 439 ls' st' h) : z_J Z mlaw R k n Q 437 ls st h := z_jr blaw_437 blaw_437_ok hr g
theorem dlaw_439 : decode code 439 = .ok (.ifCond .ne 15, 3) := by decide +kernel
theorem ilaw_439 (kt : ¬ x = 0 → z_J Z mlaw R k n Q 454 ls st h) (kf : x = 0 → z_J Z mlaw R k n Q 442 ls st h) : z_J Z mlaw R k n Q 439 ls (.int x :: st) h := z_if_ne dlaw_439 (tgt := 454) (by decide) rfl kt kf
def blaw_442 : zB := [(442, .aload_n 3, 443, nI 0), (443, .iconst 0, 444, nI 0)]
theorem blaw_442_ok : z_ok code 442 blaw_442 444 = true := by decide +kernel
theorem ilaw_442 (hr : z_run 7 blaw_442 ls st = some (ls', st')) (g : z_J Z mlaw R k n Q 444 ls' st' h) : z_J Z mlaw R k n Q 442 ls st h := z_jr blaw_442 blaw_442_ok hr g
theorem dlaw_444 : decode code 444 = .ok (.laload, 1) := by decide +kernel
theorem ilaw_444 {f : Nat → Int64} (hh : h r = some (a, .inl (2, N, .inr (.inl f)))) (hi : i = nI j) (hj : j < N) (hN : N < 2 ^ 31) (g : z_J Z mlaw R k n Q 445 ls (.long (f j) :: st) h) : z_J Z mlaw R k n Q 444 ls (.int i :: .ref a :: st) h := z_lald dlaw_444 rfl hh hi hj hN g
def blaw_445 : zB := [(445, .iload 6, 447, nI 0), (447, .i2l, 448, nI 0)]
theorem blaw_445_ok : z_ok code 445 blaw_445 448 = true := by decide +kernel
theorem ilaw_445 (hr : z_run 7 blaw_445 ls st = some (ls', st')) (g : z_J Z mlaw R k n Q 448 ls' st' h) : z_J Z mlaw R k n Q 445 ls st h := z_jr blaw_445 blaw_445_ok hr g
theorem dlaw_448 : decode code 448 = .ok (.lcmp, 1) := by decide +kernel
theorem ilaw_448 {xl yl : Int64} (g : z_J Z mlaw R k n Q 449 ls (.int (lg_cmp xl yl) :: st) h) : z_J Z mlaw R k n Q 448 ls (.long yl :: .long xl :: st) h := z_lcmp_id dlaw_448 rfl g
theorem dlaw_449 : decode code 449 = .ok (.ifCond .eq 5, 3) := by decide +kernel
theorem ilaw_449 (kt : x = 0 → z_J Z mlaw R k n Q 454 ls st h) (kf : ¬ x = 0 → z_J Z mlaw R k n Q 452 ls st h) : z_J Z mlaw R k n Q 449 ls (.int x :: st) h := z_if_eq dlaw_449 (tgt := 454) (by decide) rfl kt kf
def blaw_452 : zB := [(452, .iconst 0, 453, nI 0)]
theorem blaw_452_ok : z_ok code 452 blaw_452 453 = true := by decide +kernel
theorem ilaw_452 (hr : z_run 7 blaw_452 ls st = some (ls', st')) (g : z_J Z mlaw R k n Q 453 ls' st' h) : z_J Z mlaw R k n Q 452 ls st h := z_jr blaw_452 blaw_452_ok hr g
theorem dlaw_453 : decode code 453 = .ok (.ireturn, 1) := by decide +kernel
theorem ilaw_453 (hz : narrow .boolean (.int x) = .int x) (hk : k ≤ R.cells) (hs : n ≤ R.slots) (hq : Q (.inl (some (.int x))) h) : z_J Z mlaw R k n Q 453 ls [.int x] h := z_iret (ty := .boolean) dlaw_453 rfl hz hk hs hq
def blaw_454 : zB := [(454, .goto 1008, 1462, nI 0)]
theorem blaw_454_ok : z_ok code 454 blaw_454 1462 = true := by decide +kernel
theorem ilaw_454 (hr : z_run 7 blaw_454 ls st = some (ls', st')) (g : z_J Z mlaw R k n Q 1462 ls' st' h) : z_J Z mlaw R k n Q 454 ls st h := z_jr blaw_454 blaw_454_ok hr g
def blaw_457 : zB := [(457, .aload_n 1, 458, nI 0), (458, .aload_n 0, 459, nI 0), (459, .iload 4, 461, nI 0), (461, .iconst 1, 462, nI 1), (462, .iadd, 463, nI 0)]
theorem blaw_457_ok : z_ok code 457 blaw_457 463 = true := by decide +kernel
theorem ilaw_457 (hr : z_run 7 blaw_457 ls st = some (ls', st')) (g : z_J Z mlaw R k n Q 463 ls' st' h) : z_J Z mlaw R k n Q 457 ls st h := z_jr blaw_457 blaw_457_ok hr g
theorem dlaw_463 : decode code 463 = .ok (.iaload, 1) := by decide +kernel
theorem ilaw_463 (hi : i = nI j) (hj : j < Z.2.1) (hN : Z.2.1 < 2 ^ 31) (g : z_J Z mlaw R k n Q 464 ls (.int (Z.2.2.1 j) :: st) h) : z_J Z mlaw R k n Q 463 ls (.int i :: .ref Z.1 :: st) h := z_sld dlaw_463 rfl hi hj hN g
def blaw_464 : zB := [(464, .aload_n 0, 465, nI 0), (465, .iload 4, 467, nI 0), (467, .iconst 2, 468, nI 2), (468, .iadd, 469, nI 0)]
theorem blaw_464_ok : z_ok code 464 blaw_464 469 = true := by decide +kernel
theorem ilaw_464 (hr : z_run 7 blaw_464 ls st = some (ls', st')) (g : z_J Z mlaw R k n Q 469 ls' st' h) : z_J Z mlaw R k n Q 464 ls st h := z_jr blaw_464 blaw_464_ok hr g
theorem dlaw_469 : decode code 469 = .ok (.iaload, 1) := by decide +kernel
theorem ilaw_469 (hi : i = nI j) (hj : j < Z.2.1) (hN : Z.2.1 < 2 ^ 31) (g : z_J Z mlaw R k n Q 470 ls (.int (Z.2.2.1 j) :: st) h) : z_J Z mlaw R k n Q 469 ls (.int i :: .ref Z.1 :: st) h := z_sld dlaw_469 rfl hi hj hN g
def blaw_470 : zB := [(470, .aload_n 3, 471, nI 0)]
theorem blaw_470_ok : z_ok code 470 blaw_470 471 = true := by decide +kernel
theorem ilaw_470 (hr : z_run 7 blaw_470 ls st = some (ls', st')) (g : z_J Z mlaw R k n Q 471 ls' st' h) : z_J Z mlaw R k n Q 470 ls st h := z_jr blaw_470 blaw_470_ok hr g
theorem dlaw_471 : decode code 471 = .ok (.invokestatic 103, 3) := by decide +kernel
theorem ilaw_471 (ha : z_args 4 st [] = some (As, rest)) (hc : z_chk rest As 5 = true) (hR : z_rm R R' 5 k n) (gc : z_J Z mL_setCores R' 0 0 Q' 0 As [] h) (kr : ∀ (v : Option Value) (h' : zH), Q' (.inl v) h' → z_J Z mlaw R (k + R'.cells) (n + R'.slots) Q 474 ls (v.toList ++ rest) h') (kx : ∀ (E : String) (h' : zH), Q' (.inr E) h' → z_JX Z mlaw R (k + R'.cells) (n + R'.slots) Q 471 ls E h') : z_J Z mlaw R k n Q 471 ls st h := z_callS (M' := mL_setCores) dlaw_471 rfl cs_L_103 gw478 ha hR (z_chk1 hc) (z_chk2 hc) (z_chk3 hc) gc kr kx
def blaw_474 : zB := [(474, .istore 5, 476, nI 0), (476, .aload_n 2, 477, nI 0), (477, .aload_n 0, 478, nI 0), (478, .iload 4, 480, nI 0), (480, .iconst 1, 481, nI 1), (481, .iadd, 482, nI 0)]
theorem blaw_474_ok : z_ok code 474 blaw_474 482 = true := by decide +kernel
theorem ilaw_474 (hr : z_run 7 blaw_474 ls st = some (ls', st')) (g : z_J Z mlaw R k n Q 482 ls' st' h) : z_J Z mlaw R k n Q 474 ls st h := z_jr blaw_474 blaw_474_ok hr g
theorem dlaw_482 : decode code 482 = .ok (.iaload, 1) := by decide +kernel
theorem ilaw_482 (hi : i = nI j) (hj : j < Z.2.1) (hN : Z.2.1 < 2 ^ 31) (g : z_J Z mlaw R k n Q 483 ls (.int (Z.2.2.1 j) :: st) h) : z_J Z mlaw R k n Q 482 ls (.int i :: .ref Z.1 :: st) h := z_sld dlaw_482 rfl hi hj hN g
def blaw_483 : zB := [(483, .aload_n 0, 484, nI 0), (484, .iload 4, 486, nI 0), (486, .iconst 2, 487, nI 2), (487, .iadd, 488, nI 0)]
theorem blaw_483_ok : z_ok code 483 blaw_483 488 = true := by decide +kernel
theorem ilaw_483 (hr : z_run 7 blaw_483 ls st = some (ls', st')) (g : z_J Z mlaw R k n Q 488 ls' st' h) : z_J Z mlaw R k n Q 483 ls st h := z_jr blaw_483 blaw_483_ok hr g
theorem dlaw_488 : decode code 488 = .ok (.iaload, 1) := by decide +kernel
theorem ilaw_488 (hi : i = nI j) (hj : j < Z.2.1) (hN : Z.2.1 < 2 ^ 31) (g : z_J Z mlaw R k n Q 489 ls (.int (Z.2.2.1 j) :: st) h) : z_J Z mlaw R k n Q 488 ls (.int i :: .ref Z.1 :: st) h := z_sld dlaw_488 rfl hi hj hN g
theorem dlaw_489 : decode code 489 = .ok (.invokevirtual 105, 3) := by decide +kernel
theorem ilaw_489 (ha : z_args 2 st [] = some (As, .ref b :: rest)) (hc : z_chk rest (.ref b :: As) 4 = true) (hh : h r = some (b, .inr (7, fs))) (hR : z_rm R R' 4 k n) (gc : z_J Z mX6_setCores R' 0 0 Q' 0 (.ref b :: As) [] h) (kr : ∀ (v : Option Value) (h' : zH), Q' (.inl v) h' → z_J Z mlaw R (k + R'.cells) (n + R'.slots) Q 492 ls (v.toList ++ rest) h') (kx : ∀ (E : String) (h' : zH), Q' (.inr E) h' → z_JX Z mlaw R (k + R'.cells) (n + R'.slots) Q 489 ls E h') : z_J Z mlaw R k n Q 489 ls st h := z_callV (M' := mX6_setCores) dlaw_489 rfl cs_L_105 rfl gw828 gw829 ha hh (ci := 7) rfl hR (z_chk1 hc) (z_chk2 hc) (z_chk3 hc) gc kr kx
def blaw_492 : zB := [(492, .istore 6, 494, nI 0), (494, .aload_n 2, 495, nI 0)]
theorem blaw_492_ok : z_ok code 492 blaw_492 495 = true := by decide +kernel
theorem ilaw_492 (hr : z_run 7 blaw_492 ls st = some (ls', st')) (g : z_J Z mlaw R k n Q 495 ls' st' h) : z_J Z mlaw R k n Q 492 ls st h := z_jr blaw_492 blaw_492_ok hr g
theorem dlaw_495 : decode code 495 = .ok (.invokevirtual 85, 3) := by decide +kernel
theorem ilaw_495 (ha : z_args 0 st [] = some (As, .ref b :: rest)) (hc : z_chk rest (.ref b :: As) 1 = true) (hh : h r = some (b, .inr (7, fs))) (hR : z_rm R R' 1 k n) (gc : z_J Z mX6_thrown R' 0 0 Q' 0 (.ref b :: As) [] h) (kr : ∀ (v : Option Value) (h' : zH), Q' (.inl v) h' → z_J Z mlaw R (k + R'.cells) (n + R'.slots) Q 498 ls (v.toList ++ rest) h') (kx : ∀ (E : String) (h' : zH), Q' (.inr E) h' → z_JX Z mlaw R (k + R'.cells) (n + R'.slots) Q 495 ls E h') : z_J Z mlaw R k n Q 495 ls st h := z_callV (M' := mX6_thrown) dlaw_495 rfl cs_L_85 rfl gw793 gw794 ha hh (ci := 7) rfl hR (z_chk1 hc) (z_chk2 hc) (z_chk3 hc) gc kr kx
def blaw_498 : zB := [(498, .iload 5, 500, nI 0)]
theorem blaw_498_ok : z_ok code 498 blaw_498 500 = true := by decide +kernel
theorem ilaw_498 (hr : z_run 7 blaw_498 ls st = some (ls', st')) (g : z_J Z mlaw R k n Q 500 ls' st' h) : z_J Z mlaw R k n Q 498 ls st h := z_jr blaw_498 blaw_498_ok hr g
theorem dlaw_500 : decode code 500 = .ok (.if_icmp .eq 5, 3) := by decide +kernel
theorem ilaw_500 (kt : x = y → z_J Z mlaw R k n Q 505 ls st h) (kf : ¬ x = y → z_J Z mlaw R k n Q 503 ls st h) : z_J Z mlaw R k n Q 500 ls (.int y :: .int x :: st) h := z_ic_eq dlaw_500 (tgt := 505) (by decide) rfl kt kf
def blaw_503 : zB := [(503, .iconst 0, 504, nI 0)]
theorem blaw_503_ok : z_ok code 503 blaw_503 504 = true := by decide +kernel
theorem ilaw_503 (hr : z_run 7 blaw_503 ls st = some (ls', st')) (g : z_J Z mlaw R k n Q 504 ls' st' h) : z_J Z mlaw R k n Q 503 ls st h := z_jr blaw_503 blaw_503_ok hr g
theorem dlaw_504 : decode code 504 = .ok (.ireturn, 1) := by decide +kernel
theorem ilaw_504 (hz : narrow .boolean (.int x) = .int x) (hk : k ≤ R.cells) (hs : n ≤ R.slots) (hq : Q (.inl (some (.int x))) h) : z_J Z mlaw R k n Q 504 ls [.int x] h := z_iret (ty := .boolean) dlaw_504 rfl hz hk hs hq
def blaw_505 : zB := [(505, .iload 5, 507, nI 0)]
theorem blaw_505_ok : z_ok code 505 blaw_505 507 = true := by decide +kernel
theorem ilaw_505 (hr : z_run 7 blaw_505 ls st = some (ls', st')) (g : z_J Z mlaw R k n Q 507 ls' st' h) : z_J Z mlaw R k n Q 505 ls st h := z_jr blaw_505 blaw_505_ok hr g
theorem dlaw_507 : decode code 507 = .ok (.ifCond .ne 15, 3) := by decide +kernel
theorem ilaw_507 (kt : ¬ x = 0 → z_J Z mlaw R k n Q 522 ls st h) (kf : x = 0 → z_J Z mlaw R k n Q 510 ls st h) : z_J Z mlaw R k n Q 507 ls (.int x :: st) h := z_if_ne dlaw_507 (tgt := 522) (by decide) rfl kt kf
def blaw_510 : zB := [(510, .aload_n 3, 511, nI 0), (511, .iconst 0, 512, nI 0)]
theorem blaw_510_ok : z_ok code 510 blaw_510 512 = true := by decide +kernel
theorem ilaw_510 (hr : z_run 7 blaw_510 ls st = some (ls', st')) (g : z_J Z mlaw R k n Q 512 ls' st' h) : z_J Z mlaw R k n Q 510 ls st h := z_jr blaw_510 blaw_510_ok hr g
theorem dlaw_512 : decode code 512 = .ok (.laload, 1) := by decide +kernel
theorem ilaw_512 {f : Nat → Int64} (hh : h r = some (a, .inl (2, N, .inr (.inl f)))) (hi : i = nI j) (hj : j < N) (hN : N < 2 ^ 31) (g : z_J Z mlaw R k n Q 513 ls (.long (f j) :: st) h) : z_J Z mlaw R k n Q 512 ls (.int i :: .ref a :: st) h := z_lald dlaw_512 rfl hh hi hj hN g
def blaw_513 : zB := [(513, .iload 6, 515, nI 0), (515, .i2l, 516, nI 0)]
theorem blaw_513_ok : z_ok code 513 blaw_513 516 = true := by decide +kernel
theorem ilaw_513 (hr : z_run 7 blaw_513 ls st = some (ls', st')) (g : z_J Z mlaw R k n Q 516 ls' st' h) : z_J Z mlaw R k n Q 513 ls st h := z_jr blaw_513 blaw_513_ok hr g
theorem dlaw_516 : decode code 516 = .ok (.lcmp, 1) := by decide +kernel
theorem ilaw_516 {xl yl : Int64} (g : z_J Z mlaw R k n Q 517 ls (.int (lg_cmp xl yl) :: st) h) : z_J Z mlaw R k n Q 516 ls (.long yl :: .long xl :: st) h := z_lcmp_id dlaw_516 rfl g
theorem dlaw_517 : decode code 517 = .ok (.ifCond .eq 5, 3) := by decide +kernel
theorem ilaw_517 (kt : x = 0 → z_J Z mlaw R k n Q 522 ls st h) (kf : ¬ x = 0 → z_J Z mlaw R k n Q 520 ls st h) : z_J Z mlaw R k n Q 517 ls (.int x :: st) h := z_if_eq dlaw_517 (tgt := 522) (by decide) rfl kt kf
def blaw_520 : zB := [(520, .iconst 0, 521, nI 0)]
theorem blaw_520_ok : z_ok code 520 blaw_520 521 = true := by decide +kernel
theorem ilaw_520 (hr : z_run 7 blaw_520 ls st = some (ls', st')) (g : z_J Z mlaw R k n Q 521 ls' st' h) : z_J Z mlaw R k n Q 520 ls st h := z_jr blaw_520 blaw_520_ok hr g
theorem dlaw_521 : decode code 521 = .ok (.ireturn, 1) := by decide +kernel
theorem ilaw_521 (hz : narrow .boolean (.int x) = .int x) (hk : k ≤ R.cells) (hs : n ≤ R.slots) (hq : Q (.inl (some (.int x))) h) : z_J Z mlaw R k n Q 521 ls [.int x] h := z_iret (ty := .boolean) dlaw_521 rfl hz hk hs hq
def blaw_522 : zB := [(522, .goto 940, 1462, nI 0)]
theorem blaw_522_ok : z_ok code 522 blaw_522 1462 = true := by decide +kernel
theorem ilaw_522 (hr : z_run 7 blaw_522 ls st = some (ls', st')) (g : z_J Z mlaw R k n Q 1462 ls' st' h) : z_J Z mlaw R k n Q 522 ls st h := z_jr blaw_522 blaw_522_ok hr g
def blaw_525 : zB := [(525, .aload_n 1, 526, nI 0), (526, .aload_n 0, 527, nI 0), (527, .iload 4, 529, nI 0), (529, .iconst 1, 530, nI 1), (530, .iadd, 531, nI 0)]
theorem blaw_525_ok : z_ok code 525 blaw_525 531 = true := by decide +kernel
theorem ilaw_525 (hr : z_run 7 blaw_525 ls st = some (ls', st')) (g : z_J Z mlaw R k n Q 531 ls' st' h) : z_J Z mlaw R k n Q 525 ls st h := z_jr blaw_525 blaw_525_ok hr g
theorem dlaw_531 : decode code 531 = .ok (.iaload, 1) := by decide +kernel
theorem ilaw_531 (hi : i = nI j) (hj : j < Z.2.1) (hN : Z.2.1 < 2 ^ 31) (g : z_J Z mlaw R k n Q 532 ls (.int (Z.2.2.1 j) :: st) h) : z_J Z mlaw R k n Q 531 ls (.int i :: .ref Z.1 :: st) h := z_sld dlaw_531 rfl hi hj hN g
def blaw_532 : zB := [(532, .aload_n 0, 533, nI 0), (533, .iload 4, 535, nI 0), (535, .iconst 2, 536, nI 2), (536, .iadd, 537, nI 0)]
theorem blaw_532_ok : z_ok code 532 blaw_532 537 = true := by decide +kernel
theorem ilaw_532 (hr : z_run 7 blaw_532 ls st = some (ls', st')) (g : z_J Z mlaw R k n Q 537 ls' st' h) : z_J Z mlaw R k n Q 532 ls st h := z_jr blaw_532 blaw_532_ok hr g
theorem dlaw_537 : decode code 537 = .ok (.iaload, 1) := by decide +kernel
theorem ilaw_537 (hi : i = nI j) (hj : j < Z.2.1) (hN : Z.2.1 < 2 ^ 31) (g : z_J Z mlaw R k n Q 538 ls (.int (Z.2.2.1 j) :: st) h) : z_J Z mlaw R k n Q 537 ls (.int i :: .ref Z.1 :: st) h := z_sld dlaw_537 rfl hi hj hN g
theorem dlaw_538 : decode code 538 = .ok (.ifCond .eq 7, 3) := by decide +kernel
theorem ilaw_538 (kt : x = 0 → z_J Z mlaw R k n Q 545 ls st h) (kf : ¬ x = 0 → z_J Z mlaw R k n Q 541 ls st h) : z_J Z mlaw R k n Q 538 ls (.int x :: st) h := z_if_eq dlaw_538 (tgt := 545) (by decide) rfl kt kf
def blaw_541 : zB := [(541, .iconst 1, 542, nI 1), (542, .goto 4, 546, nI 0)]
theorem blaw_541_ok : z_ok code 541 blaw_541 546 = true := by decide +kernel
theorem ilaw_541 (hr : z_run 7 blaw_541 ls st = some (ls', st')) (g : z_J Z mlaw R k n Q 546 ls' st' h) : z_J Z mlaw R k n Q 541 ls st h := z_jr blaw_541 blaw_541_ok hr g
def blaw_545 : zB := [(545, .iconst 0, 546, nI 0)]
theorem blaw_545_ok : z_ok code 545 blaw_545 546 = true := by decide +kernel
theorem ilaw_545 (hr : z_run 7 blaw_545 ls st = some (ls', st')) (g : z_J Z mlaw R k n Q 546 ls' st' h) : z_J Z mlaw R k n Q 545 ls st h := z_jr blaw_545 blaw_545_ok hr g
def blaw_546 : zB := [(546, .aload_n 3, 547, nI 0)]
theorem blaw_546_ok : z_ok code 546 blaw_546 547 = true := by decide +kernel
theorem ilaw_546 (hr : z_run 7 blaw_546 ls st = some (ls', st')) (g : z_J Z mlaw R k n Q 547 ls' st' h) : z_J Z mlaw R k n Q 546 ls st h := z_jr blaw_546 blaw_546_ok hr g
theorem dlaw_547 : decode code 547 = .ok (.invokestatic 106, 3) := by decide +kernel
theorem ilaw_547 (ha : z_args 4 st [] = some (As, rest)) (hc : z_chk rest As 5 = true) (hR : z_rm R R' 5 k n) (gc : z_J Z mL_tellApart R' 0 0 Q' 0 As [] h) (kr : ∀ (v : Option Value) (h' : zH), Q' (.inl v) h' → z_J Z mlaw R (k + R'.cells) (n + R'.slots) Q 550 ls (v.toList ++ rest) h') (kx : ∀ (E : String) (h' : zH), Q' (.inr E) h' → z_JX Z mlaw R (k + R'.cells) (n + R'.slots) Q 547 ls E h') : z_J Z mlaw R k n Q 547 ls st h := z_callS (M' := mL_tellApart) dlaw_547 rfl cs_L_106 gw485 ha hR (z_chk1 hc) (z_chk2 hc) (z_chk3 hc) gc kr kx
def blaw_550 : zB := [(550, .istore 5, 552, nI 0), (552, .aload_n 2, 553, nI 0), (553, .aload_n 0, 554, nI 0), (554, .iload 4, 556, nI 0), (556, .iconst 1, 557, nI 1), (557, .iadd, 558, nI 0)]
theorem blaw_550_ok : z_ok code 550 blaw_550 558 = true := by decide +kernel
theorem ilaw_550 (hr : z_run 7 blaw_550 ls st = some (ls', st')) (g : z_J Z mlaw R k n Q 558 ls' st' h) : z_J Z mlaw R k n Q 550 ls st h := z_jr blaw_550 blaw_550_ok hr g
theorem dlaw_558 : decode code 558 = .ok (.iaload, 1) := by decide +kernel
theorem ilaw_558 (hi : i = nI j) (hj : j < Z.2.1) (hN : Z.2.1 < 2 ^ 31) (g : z_J Z mlaw R k n Q 559 ls (.int (Z.2.2.1 j) :: st) h) : z_J Z mlaw R k n Q 558 ls (.int i :: .ref Z.1 :: st) h := z_sld dlaw_558 rfl hi hj hN g
def blaw_559 : zB := [(559, .aload_n 0, 560, nI 0), (560, .iload 4, 562, nI 0), (562, .iconst 2, 563, nI 2), (563, .iadd, 564, nI 0)]
theorem blaw_559_ok : z_ok code 559 blaw_559 564 = true := by decide +kernel
theorem ilaw_559 (hr : z_run 7 blaw_559 ls st = some (ls', st')) (g : z_J Z mlaw R k n Q 564 ls' st' h) : z_J Z mlaw R k n Q 559 ls st h := z_jr blaw_559 blaw_559_ok hr g
theorem dlaw_564 : decode code 564 = .ok (.iaload, 1) := by decide +kernel
theorem ilaw_564 (hi : i = nI j) (hj : j < Z.2.1) (hN : Z.2.1 < 2 ^ 31) (g : z_J Z mlaw R k n Q 565 ls (.int (Z.2.2.1 j) :: st) h) : z_J Z mlaw R k n Q 564 ls (.int i :: .ref Z.1 :: st) h := z_sld dlaw_564 rfl hi hj hN g
theorem dlaw_565 : decode code 565 = .ok (.ifCond .eq 7, 3) := by decide +kernel
theorem ilaw_565 (kt : x = 0 → z_J Z mlaw R k n Q 572 ls st h) (kf : ¬ x = 0 → z_J Z mlaw R k n Q 568 ls st h) : z_J Z mlaw R k n Q 565 ls (.int x :: st) h := z_if_eq dlaw_565 (tgt := 572) (by decide) rfl kt kf
def blaw_568 : zB := [(568, .iconst 1, 569, nI 1), (569, .goto 4, 573, nI 0)]
theorem blaw_568_ok : z_ok code 568 blaw_568 573 = true := by decide +kernel
theorem ilaw_568 (hr : z_run 7 blaw_568 ls st = some (ls', st')) (g : z_J Z mlaw R k n Q 573 ls' st' h) : z_J Z mlaw R k n Q 568 ls st h := z_jr blaw_568 blaw_568_ok hr g
def blaw_572 : zB := [(572, .iconst 0, 573, nI 0)]
theorem blaw_572_ok : z_ok code 572 blaw_572 573 = true := by decide +kernel
theorem ilaw_572 (hr : z_run 7 blaw_572 ls st = some (ls', st')) (g : z_J Z mlaw R k n Q 573 ls' st' h) : z_J Z mlaw R k n Q 572 ls st h := z_jr blaw_572 blaw_572_ok hr g
theorem dlaw_573 : decode code 573 = .ok (.invokevirtual 109, 3) := by decide +kernel
theorem ilaw_573 (ha : z_args 2 st [] = some (As, .ref b :: rest)) (hc : z_chk rest (.ref b :: As) 3 = true) (hh : h r = some (b, .inr (7, fs))) (hR : z_rm R R' 3 k n) (gc : z_J Z mX6_tellApart R' 0 0 Q' 0 (.ref b :: As) [] h) (kr : ∀ (v : Option Value) (h' : zH), Q' (.inl v) h' → z_J Z mlaw R (k + R'.cells) (n + R'.slots) Q 576 ls (v.toList ++ rest) h') (kx : ∀ (E : String) (h' : zH), Q' (.inr E) h' → z_JX Z mlaw R (k + R'.cells) (n + R'.slots) Q 573 ls E h') : z_J Z mlaw R k n Q 573 ls st h := z_callV (M' := mX6_tellApart) dlaw_573 rfl cs_L_109 rfl gw832 gw833 ha hh (ci := 7) rfl hR (z_chk1 hc) (z_chk2 hc) (z_chk3 hc) gc kr kx
def blaw_576 : zB := [(576, .istore 6, 578, nI 0), (578, .aload_n 2, 579, nI 0)]
theorem blaw_576_ok : z_ok code 576 blaw_576 579 = true := by decide +kernel
theorem ilaw_576 (hr : z_run 7 blaw_576 ls st = some (ls', st')) (g : z_J Z mlaw R k n Q 579 ls' st' h) : z_J Z mlaw R k n Q 576 ls st h := z_jr blaw_576 blaw_576_ok hr g
theorem dlaw_579 : decode code 579 = .ok (.invokevirtual 85, 3) := by decide +kernel
theorem ilaw_579 (ha : z_args 0 st [] = some (As, .ref b :: rest)) (hc : z_chk rest (.ref b :: As) 1 = true) (hh : h r = some (b, .inr (7, fs))) (hR : z_rm R R' 1 k n) (gc : z_J Z mX6_thrown R' 0 0 Q' 0 (.ref b :: As) [] h) (kr : ∀ (v : Option Value) (h' : zH), Q' (.inl v) h' → z_J Z mlaw R (k + R'.cells) (n + R'.slots) Q 582 ls (v.toList ++ rest) h') (kx : ∀ (E : String) (h' : zH), Q' (.inr E) h' → z_JX Z mlaw R (k + R'.cells) (n + R'.slots) Q 579 ls E h') : z_J Z mlaw R k n Q 579 ls st h := z_callV (M' := mX6_thrown) dlaw_579 rfl cs_L_85 rfl gw793 gw794 ha hh (ci := 7) rfl hR (z_chk1 hc) (z_chk2 hc) (z_chk3 hc) gc kr kx
def blaw_582 : zB := [(582, .iload 5, 584, nI 0)]
theorem blaw_582_ok : z_ok code 582 blaw_582 584 = true := by decide +kernel
theorem ilaw_582 (hr : z_run 7 blaw_582 ls st = some (ls', st')) (g : z_J Z mlaw R k n Q 584 ls' st' h) : z_J Z mlaw R k n Q 582 ls st h := z_jr blaw_582 blaw_582_ok hr g
theorem dlaw_584 : decode code 584 = .ok (.if_icmp .eq 5, 3) := by decide +kernel
theorem ilaw_584 (kt : x = y → z_J Z mlaw R k n Q 589 ls st h) (kf : ¬ x = y → z_J Z mlaw R k n Q 587 ls st h) : z_J Z mlaw R k n Q 584 ls (.int y :: .int x :: st) h := z_ic_eq dlaw_584 (tgt := 589) (by decide) rfl kt kf
def blaw_587 : zB := [(587, .iconst 0, 588, nI 0)]
theorem blaw_587_ok : z_ok code 587 blaw_587 588 = true := by decide +kernel
theorem ilaw_587 (hr : z_run 7 blaw_587 ls st = some (ls', st')) (g : z_J Z mlaw R k n Q 588 ls' st' h) : z_J Z mlaw R k n Q 587 ls st h := z_jr blaw_587 blaw_587_ok hr g
theorem dlaw_588 : decode code 588 = .ok (.ireturn, 1) := by decide +kernel
theorem ilaw_588 (hz : narrow .boolean (.int x) = .int x) (hk : k ≤ R.cells) (hs : n ≤ R.slots) (hq : Q (.inl (some (.int x))) h) : z_J Z mlaw R k n Q 588 ls [.int x] h := z_iret (ty := .boolean) dlaw_588 rfl hz hk hs hq
def blaw_589 : zB := [(589, .iload 5, 591, nI 0)]
theorem blaw_589_ok : z_ok code 589 blaw_589 591 = true := by decide +kernel
theorem ilaw_589 (hr : z_run 7 blaw_589 ls st = some (ls', st')) (g : z_J Z mlaw R k n Q 591 ls' st' h) : z_J Z mlaw R k n Q 589 ls st h := z_jr blaw_589 blaw_589_ok hr g
theorem dlaw_591 : decode code 591 = .ok (.ifCond .ne 15, 3) := by decide +kernel
theorem ilaw_591 (kt : ¬ x = 0 → z_J Z mlaw R k n Q 606 ls st h) (kf : x = 0 → z_J Z mlaw R k n Q 594 ls st h) : z_J Z mlaw R k n Q 591 ls (.int x :: st) h := z_if_ne dlaw_591 (tgt := 606) (by decide) rfl kt kf
def blaw_594 : zB := [(594, .aload_n 3, 595, nI 0), (595, .iconst 0, 596, nI 0)]
theorem blaw_594_ok : z_ok code 594 blaw_594 596 = true := by decide +kernel
theorem ilaw_594 (hr : z_run 7 blaw_594 ls st = some (ls', st')) (g : z_J Z mlaw R k n Q 596 ls' st' h) : z_J Z mlaw R k n Q 594 ls st h := z_jr blaw_594 blaw_594_ok hr g
theorem dlaw_596 : decode code 596 = .ok (.laload, 1) := by decide +kernel
theorem ilaw_596 {f : Nat → Int64} (hh : h r = some (a, .inl (2, N, .inr (.inl f)))) (hi : i = nI j) (hj : j < N) (hN : N < 2 ^ 31) (g : z_J Z mlaw R k n Q 597 ls (.long (f j) :: st) h) : z_J Z mlaw R k n Q 596 ls (.int i :: .ref a :: st) h := z_lald dlaw_596 rfl hh hi hj hN g
def blaw_597 : zB := [(597, .iload 6, 599, nI 0), (599, .i2l, 600, nI 0)]
theorem blaw_597_ok : z_ok code 597 blaw_597 600 = true := by decide +kernel
theorem ilaw_597 (hr : z_run 7 blaw_597 ls st = some (ls', st')) (g : z_J Z mlaw R k n Q 600 ls' st' h) : z_J Z mlaw R k n Q 597 ls st h := z_jr blaw_597 blaw_597_ok hr g
theorem dlaw_600 : decode code 600 = .ok (.lcmp, 1) := by decide +kernel
theorem ilaw_600 {xl yl : Int64} (g : z_J Z mlaw R k n Q 601 ls (.int (lg_cmp xl yl) :: st) h) : z_J Z mlaw R k n Q 600 ls (.long yl :: .long xl :: st) h := z_lcmp_id dlaw_600 rfl g
theorem dlaw_601 : decode code 601 = .ok (.ifCond .eq 5, 3) := by decide +kernel
theorem ilaw_601 (kt : x = 0 → z_J Z mlaw R k n Q 606 ls st h) (kf : ¬ x = 0 → z_J Z mlaw R k n Q 604 ls st h) : z_J Z mlaw R k n Q 601 ls (.int x :: st) h := z_if_eq dlaw_601 (tgt := 606) (by decide) rfl kt kf
def blaw_604 : zB := [(604, .iconst 0, 605, nI 0)]
theorem blaw_604_ok : z_ok code 604 blaw_604 605 = true := by decide +kernel
theorem ilaw_604 (hr : z_run 7 blaw_604 ls st = some (ls', st')) (g : z_J Z mlaw R k n Q 605 ls' st' h) : z_J Z mlaw R k n Q 604 ls st h := z_jr blaw_604 blaw_604_ok hr g
theorem dlaw_605 : decode code 605 = .ok (.ireturn, 1) := by decide +kernel
theorem ilaw_605 (hz : narrow .boolean (.int x) = .int x) (hk : k ≤ R.cells) (hs : n ≤ R.slots) (hq : Q (.inl (some (.int x))) h) : z_J Z mlaw R k n Q 605 ls [.int x] h := z_iret (ty := .boolean) dlaw_605 rfl hz hk hs hq
def blaw_606 : zB := [(606, .goto 856, 1462, nI 0)]
theorem blaw_606_ok : z_ok code 606 blaw_606 1462 = true := by decide +kernel
theorem ilaw_606 (hr : z_run 7 blaw_606 ls st = some (ls', st')) (g : z_J Z mlaw R k n Q 1462 ls' st' h) : z_J Z mlaw R k n Q 606 ls st h := z_jr blaw_606 blaw_606_ok hr g
def blaw_609 : zB := [(609, .aload_n 1, 610, nI 0), (610, .aload_n 0, 611, nI 0), (611, .iload 4, 613, nI 0), (613, .iconst 1, 614, nI 1), (614, .iadd, 615, nI 0)]
theorem blaw_609_ok : z_ok code 609 blaw_609 615 = true := by decide +kernel
theorem ilaw_609 (hr : z_run 7 blaw_609 ls st = some (ls', st')) (g : z_J Z mlaw R k n Q 615 ls' st' h) : z_J Z mlaw R k n Q 609 ls st h := z_jr blaw_609 blaw_609_ok hr g
theorem dlaw_615 : decode code 615 = .ok (.iaload, 1) := by decide +kernel
theorem ilaw_615 (hi : i = nI j) (hj : j < Z.2.1) (hN : Z.2.1 < 2 ^ 31) (g : z_J Z mlaw R k n Q 616 ls (.int (Z.2.2.1 j) :: st) h) : z_J Z mlaw R k n Q 615 ls (.int i :: .ref Z.1 :: st) h := z_sld dlaw_615 rfl hi hj hN g
def blaw_616 : zB := [(616, .aload_n 0, 617, nI 0), (617, .iload 4, 619, nI 0), (619, .iconst 2, 620, nI 2), (620, .iadd, 621, nI 0)]
theorem blaw_616_ok : z_ok code 616 blaw_616 621 = true := by decide +kernel
theorem ilaw_616 (hr : z_run 7 blaw_616 ls st = some (ls', st')) (g : z_J Z mlaw R k n Q 621 ls' st' h) : z_J Z mlaw R k n Q 616 ls st h := z_jr blaw_616 blaw_616_ok hr g
theorem dlaw_621 : decode code 621 = .ok (.iaload, 1) := by decide +kernel
theorem ilaw_621 (hi : i = nI j) (hj : j < Z.2.1) (hN : Z.2.1 < 2 ^ 31) (g : z_J Z mlaw R k n Q 622 ls (.int (Z.2.2.1 j) :: st) h) : z_J Z mlaw R k n Q 621 ls (.int i :: .ref Z.1 :: st) h := z_sld dlaw_621 rfl hi hj hN g
def blaw_622 : zB := [(622, .aload_n 3, 623, nI 0)]
theorem blaw_622_ok : z_ok code 622 blaw_622 623 = true := by decide +kernel
theorem ilaw_622 (hr : z_run 7 blaw_622 ls st = some (ls', st')) (g : z_J Z mlaw R k n Q 623 ls' st' h) : z_J Z mlaw R k n Q 622 ls st h := z_jr blaw_622 blaw_622_ok hr g
theorem dlaw_623 : decode code 623 = .ok (.invokestatic 110, 3) := by decide +kernel
theorem ilaw_623 (ha : z_args 4 st [] = some (As, rest)) (hc : z_chk rest As 5 = true) (hR : z_rm R R' 5 k n) (gc : z_J Z mL_setCoresOfUnit R' 0 0 Q' 0 As [] h) (kr : ∀ (v : Option Value) (h' : zH), Q' (.inl v) h' → z_J Z mlaw R (k + R'.cells) (n + R'.slots) Q 626 ls (v.toList ++ rest) h') (kx : ∀ (E : String) (h' : zH), Q' (.inr E) h' → z_JX Z mlaw R (k + R'.cells) (n + R'.slots) Q 623 ls E h') : z_J Z mlaw R k n Q 623 ls st h := z_callS (M' := mL_setCoresOfUnit) dlaw_623 rfl cs_L_110 gw496 ha hR (z_chk1 hc) (z_chk2 hc) (z_chk3 hc) gc kr kx
def blaw_626 : zB := [(626, .istore 5, 628, nI 0), (628, .aload_n 2, 629, nI 0), (629, .aload_n 0, 630, nI 0), (630, .iload 4, 632, nI 0), (632, .iconst 1, 633, nI 1), (633, .iadd, 634, nI 0)]
theorem blaw_626_ok : z_ok code 626 blaw_626 634 = true := by decide +kernel
theorem ilaw_626 (hr : z_run 7 blaw_626 ls st = some (ls', st')) (g : z_J Z mlaw R k n Q 634 ls' st' h) : z_J Z mlaw R k n Q 626 ls st h := z_jr blaw_626 blaw_626_ok hr g
theorem dlaw_634 : decode code 634 = .ok (.iaload, 1) := by decide +kernel
theorem ilaw_634 (hi : i = nI j) (hj : j < Z.2.1) (hN : Z.2.1 < 2 ^ 31) (g : z_J Z mlaw R k n Q 635 ls (.int (Z.2.2.1 j) :: st) h) : z_J Z mlaw R k n Q 634 ls (.int i :: .ref Z.1 :: st) h := z_sld dlaw_634 rfl hi hj hN g
def blaw_635 : zB := [(635, .aload_n 0, 636, nI 0), (636, .iload 4, 638, nI 0), (638, .iconst 2, 639, nI 2), (639, .iadd, 640, nI 0)]
theorem blaw_635_ok : z_ok code 635 blaw_635 640 = true := by decide +kernel
theorem ilaw_635 (hr : z_run 7 blaw_635 ls st = some (ls', st')) (g : z_J Z mlaw R k n Q 640 ls' st' h) : z_J Z mlaw R k n Q 635 ls st h := z_jr blaw_635 blaw_635_ok hr g
theorem dlaw_640 : decode code 640 = .ok (.iaload, 1) := by decide +kernel
theorem ilaw_640 (hi : i = nI j) (hj : j < Z.2.1) (hN : Z.2.1 < 2 ^ 31) (g : z_J Z mlaw R k n Q 641 ls (.int (Z.2.2.1 j) :: st) h) : z_J Z mlaw R k n Q 640 ls (.int i :: .ref Z.1 :: st) h := z_sld dlaw_640 rfl hi hj hN g
theorem dlaw_641 : decode code 641 = .ok (.invokevirtual 112, 3) := by decide +kernel
theorem ilaw_641 (ha : z_args 2 st [] = some (As, .ref b :: rest)) (hc : z_chk rest (.ref b :: As) 4 = true) (hh : h r = some (b, .inr (7, fs))) (hR : z_rm R R' 4 k n) (gc : z_J Z mX6_setCoresOfUnit R' 0 0 Q' 0 (.ref b :: As) [] h) (kr : ∀ (v : Option Value) (h' : zH), Q' (.inl v) h' → z_J Z mlaw R (k + R'.cells) (n + R'.slots) Q 644 ls (v.toList ++ rest) h') (kx : ∀ (E : String) (h' : zH), Q' (.inr E) h' → z_JX Z mlaw R (k + R'.cells) (n + R'.slots) Q 641 ls E h') : z_J Z mlaw R k n Q 641 ls st h := z_callV (M' := mX6_setCoresOfUnit) dlaw_641 rfl cs_L_112 rfl gw840 gw841 ha hh (ci := 7) rfl hR (z_chk1 hc) (z_chk2 hc) (z_chk3 hc) gc kr kx
def blaw_644 : zB := [(644, .istore 6, 646, nI 0), (646, .aload_n 2, 647, nI 0)]
theorem blaw_644_ok : z_ok code 644 blaw_644 647 = true := by decide +kernel
theorem ilaw_644 (hr : z_run 7 blaw_644 ls st = some (ls', st')) (g : z_J Z mlaw R k n Q 647 ls' st' h) : z_J Z mlaw R k n Q 644 ls st h := z_jr blaw_644 blaw_644_ok hr g
theorem dlaw_647 : decode code 647 = .ok (.invokevirtual 85, 3) := by decide +kernel
theorem ilaw_647 (ha : z_args 0 st [] = some (As, .ref b :: rest)) (hc : z_chk rest (.ref b :: As) 1 = true) (hh : h r = some (b, .inr (7, fs))) (hR : z_rm R R' 1 k n) (gc : z_J Z mX6_thrown R' 0 0 Q' 0 (.ref b :: As) [] h) (kr : ∀ (v : Option Value) (h' : zH), Q' (.inl v) h' → z_J Z mlaw R (k + R'.cells) (n + R'.slots) Q 650 ls (v.toList ++ rest) h') (kx : ∀ (E : String) (h' : zH), Q' (.inr E) h' → z_JX Z mlaw R (k + R'.cells) (n + R'.slots) Q 647 ls E h') : z_J Z mlaw R k n Q 647 ls st h := z_callV (M' := mX6_thrown) dlaw_647 rfl cs_L_85 rfl gw793 gw794 ha hh (ci := 7) rfl hR (z_chk1 hc) (z_chk2 hc) (z_chk3 hc) gc kr kx
def blaw_650 : zB := [(650, .iload 5, 652, nI 0)]
theorem blaw_650_ok : z_ok code 650 blaw_650 652 = true := by decide +kernel
theorem ilaw_650 (hr : z_run 7 blaw_650 ls st = some (ls', st')) (g : z_J Z mlaw R k n Q 652 ls' st' h) : z_J Z mlaw R k n Q 650 ls st h := z_jr blaw_650 blaw_650_ok hr g
theorem dlaw_652 : decode code 652 = .ok (.if_icmp .eq 5, 3) := by decide +kernel
theorem ilaw_652 (kt : x = y → z_J Z mlaw R k n Q 657 ls st h) (kf : ¬ x = y → z_J Z mlaw R k n Q 655 ls st h) : z_J Z mlaw R k n Q 652 ls (.int y :: .int x :: st) h := z_ic_eq dlaw_652 (tgt := 657) (by decide) rfl kt kf
def blaw_655 : zB := [(655, .iconst 0, 656, nI 0)]
theorem blaw_655_ok : z_ok code 655 blaw_655 656 = true := by decide +kernel
theorem ilaw_655 (hr : z_run 7 blaw_655 ls st = some (ls', st')) (g : z_J Z mlaw R k n Q 656 ls' st' h) : z_J Z mlaw R k n Q 655 ls st h := z_jr blaw_655 blaw_655_ok hr g
theorem dlaw_656 : decode code 656 = .ok (.ireturn, 1) := by decide +kernel
theorem ilaw_656 (hz : narrow .boolean (.int x) = .int x) (hk : k ≤ R.cells) (hs : n ≤ R.slots) (hq : Q (.inl (some (.int x))) h) : z_J Z mlaw R k n Q 656 ls [.int x] h := z_iret (ty := .boolean) dlaw_656 rfl hz hk hs hq
def blaw_657 : zB := [(657, .iload 5, 659, nI 0)]
theorem blaw_657_ok : z_ok code 657 blaw_657 659 = true := by decide +kernel
theorem ilaw_657 (hr : z_run 7 blaw_657 ls st = some (ls', st')) (g : z_J Z mlaw R k n Q 659 ls' st' h) : z_J Z mlaw R k n Q 657 ls st h := z_jr blaw_657 blaw_657_ok hr g
theorem dlaw_659 : decode code 659 = .ok (.ifCond .ne 15, 3) := by decide +kernel
theorem ilaw_659 (kt : ¬ x = 0 → z_J Z mlaw R k n Q 674 ls st h) (kf : x = 0 → z_J Z mlaw R k n Q 662 ls st h) : z_J Z mlaw R k n Q 659 ls (.int x :: st) h := z_if_ne dlaw_659 (tgt := 674) (by decide) rfl kt kf
def blaw_662 : zB := [(662, .aload_n 3, 663, nI 0), (663, .iconst 0, 664, nI 0)]
theorem blaw_662_ok : z_ok code 662 blaw_662 664 = true := by decide +kernel
theorem ilaw_662 (hr : z_run 7 blaw_662 ls st = some (ls', st')) (g : z_J Z mlaw R k n Q 664 ls' st' h) : z_J Z mlaw R k n Q 662 ls st h := z_jr blaw_662 blaw_662_ok hr g
theorem dlaw_664 : decode code 664 = .ok (.laload, 1) := by decide +kernel
theorem ilaw_664 {f : Nat → Int64} (hh : h r = some (a, .inl (2, N, .inr (.inl f)))) (hi : i = nI j) (hj : j < N) (hN : N < 2 ^ 31) (g : z_J Z mlaw R k n Q 665 ls (.long (f j) :: st) h) : z_J Z mlaw R k n Q 664 ls (.int i :: .ref a :: st) h := z_lald dlaw_664 rfl hh hi hj hN g
def blaw_665 : zB := [(665, .iload 6, 667, nI 0), (667, .i2l, 668, nI 0)]
theorem blaw_665_ok : z_ok code 665 blaw_665 668 = true := by decide +kernel
theorem ilaw_665 (hr : z_run 7 blaw_665 ls st = some (ls', st')) (g : z_J Z mlaw R k n Q 668 ls' st' h) : z_J Z mlaw R k n Q 665 ls st h := z_jr blaw_665 blaw_665_ok hr g
theorem dlaw_668 : decode code 668 = .ok (.lcmp, 1) := by decide +kernel
theorem ilaw_668 {xl yl : Int64} (g : z_J Z mlaw R k n Q 669 ls (.int (lg_cmp xl yl) :: st) h) : z_J Z mlaw R k n Q 668 ls (.long yl :: .long xl :: st) h := z_lcmp_id dlaw_668 rfl g
theorem dlaw_669 : decode code 669 = .ok (.ifCond .eq 5, 3) := by decide +kernel
theorem ilaw_669 (kt : x = 0 → z_J Z mlaw R k n Q 674 ls st h) (kf : ¬ x = 0 → z_J Z mlaw R k n Q 672 ls st h) : z_J Z mlaw R k n Q 669 ls (.int x :: st) h := z_if_eq dlaw_669 (tgt := 674) (by decide) rfl kt kf
def blaw_672 : zB := [(672, .iconst 0, 673, nI 0)]
theorem blaw_672_ok : z_ok code 672 blaw_672 673 = true := by decide +kernel
theorem ilaw_672 (hr : z_run 7 blaw_672 ls st = some (ls', st')) (g : z_J Z mlaw R k n Q 673 ls' st' h) : z_J Z mlaw R k n Q 672 ls st h := z_jr blaw_672 blaw_672_ok hr g
theorem dlaw_673 : decode code 673 = .ok (.ireturn, 1) := by decide +kernel
theorem ilaw_673 (hz : narrow .boolean (.int x) = .int x) (hk : k ≤ R.cells) (hs : n ≤ R.slots) (hq : Q (.inl (some (.int x))) h) : z_J Z mlaw R k n Q 673 ls [.int x] h := z_iret (ty := .boolean) dlaw_673 rfl hz hk hs hq
def blaw_674 : zB := [(674, .goto 788, 1462, nI 0)]
theorem blaw_674_ok : z_ok code 674 blaw_674 1462 = true := by decide +kernel
theorem ilaw_674 (hr : z_run 7 blaw_674 ls st = some (ls', st')) (g : z_J Z mlaw R k n Q 1462 ls' st' h) : z_J Z mlaw R k n Q 674 ls st h := z_jr blaw_674 blaw_674_ok hr g
def blaw_677 : zB := [(677, .aload_n 1, 678, nI 0)]
theorem blaw_677_ok : z_ok code 677 blaw_677 678 = true := by decide +kernel
theorem ilaw_677 (hr : z_run 7 blaw_677 ls st = some (ls', st')) (g : z_J Z mlaw R k n Q 678 ls' st' h) : z_J Z mlaw R k n Q 677 ls st h := z_jr blaw_677 blaw_677_ok hr g
theorem dlaw_678 : decode code 678 = .ok (.invokevirtual 113, 3) := by decide +kernel
theorem ilaw_678 (ha : z_args 0 st [] = some (As, .ref b :: rest)) (hc : z_chk rest (.ref b :: As) 1 = true) (hh : h r = some (b, .inr (6, fs))) (hR : z_rm R R' 1 k n) (gc : z_J Z mX5_machines R' 0 0 Q' 0 (.ref b :: As) [] h) (kr : ∀ (v : Option Value) (h' : zH), Q' (.inl v) h' → z_J Z mlaw R (k + R'.cells) (n + R'.slots) Q 681 ls (v.toList ++ rest) h') (kx : ∀ (E : String) (h' : zH), Q' (.inr E) h' → z_JX Z mlaw R (k + R'.cells) (n + R'.slots) Q 678 ls E h') : z_J Z mlaw R k n Q 678 ls st h := z_callV (M' := mX5_machines) dlaw_678 rfl cs_L_113 rfl gw187 gw188 ha hh (ci := 6) rfl hR (z_chk1 hc) (z_chk2 hc) (z_chk3 hc) gc kr kx
def blaw_681 : zB := [(681, .aload_n 2, 682, nI 0)]
theorem blaw_681_ok : z_ok code 681 blaw_681 682 = true := by decide +kernel
theorem ilaw_681 (hr : z_run 7 blaw_681 ls st = some (ls', st')) (g : z_J Z mlaw R k n Q 682 ls' st' h) : z_J Z mlaw R k n Q 681 ls st h := z_jr blaw_681 blaw_681_ok hr g
theorem dlaw_682 : decode code 682 = .ok (.invokevirtual 116, 3) := by decide +kernel
theorem ilaw_682 (ha : z_args 0 st [] = some (As, .ref b :: rest)) (hc : z_chk rest (.ref b :: As) 1 = true) (hh : h r = some (b, .inr (7, fs))) (hR : z_rm R R' 1 k n) (gc : z_J Z mX6_machines R' 0 0 Q' 0 (.ref b :: As) [] h) (kr : ∀ (v : Option Value) (h' : zH), Q' (.inl v) h' → z_J Z mlaw R (k + R'.cells) (n + R'.slots) Q 685 ls (v.toList ++ rest) h') (kx : ∀ (E : String) (h' : zH), Q' (.inr E) h' → z_JX Z mlaw R (k + R'.cells) (n + R'.slots) Q 682 ls E h') : z_J Z mlaw R k n Q 682 ls st h := z_callV (M' := mX6_machines) dlaw_682 rfl cs_L_116 rfl gw847 gw848 ha hh (ci := 7) rfl hR (z_chk1 hc) (z_chk2 hc) (z_chk3 hc) gc kr kx
theorem dlaw_685 : decode code 685 = .ok (.if_icmp .eq 777, 3) := by decide +kernel
theorem ilaw_685 (kt : x = y → z_J Z mlaw R k n Q 1462 ls st h) (kf : ¬ x = y → z_J Z mlaw R k n Q 688 ls st h) : z_J Z mlaw R k n Q 685 ls (.int y :: .int x :: st) h := z_ic_eq dlaw_685 (tgt := 1462) (by decide) rfl kt kf
def blaw_688 : zB := [(688, .iconst 0, 689, nI 0)]
theorem blaw_688_ok : z_ok code 688 blaw_688 689 = true := by decide +kernel
theorem ilaw_688 (hr : z_run 7 blaw_688 ls st = some (ls', st')) (g : z_J Z mlaw R k n Q 689 ls' st' h) : z_J Z mlaw R k n Q 688 ls st h := z_jr blaw_688 blaw_688_ok hr g
theorem dlaw_689 : decode code 689 = .ok (.ireturn, 1) := by decide +kernel
theorem ilaw_689 (hz : narrow .boolean (.int x) = .int x) (hk : k ≤ R.cells) (hs : n ≤ R.slots) (hq : Q (.inl (some (.int x))) h) : z_J Z mlaw R k n Q 689 ls [.int x] h := z_iret (ty := .boolean) dlaw_689 rfl hz hk hs hq
def blaw_690 : zB := [(690, .aload_n 1, 691, nI 0), (691, .aload_n 0, 692, nI 0), (692, .iload 4, 694, nI 0), (694, .iconst 1, 695, nI 1), (695, .iadd, 696, nI 0)]
theorem blaw_690_ok : z_ok code 690 blaw_690 696 = true := by decide +kernel
theorem ilaw_690 (hr : z_run 7 blaw_690 ls st = some (ls', st')) (g : z_J Z mlaw R k n Q 696 ls' st' h) : z_J Z mlaw R k n Q 690 ls st h := z_jr blaw_690 blaw_690_ok hr g
theorem dlaw_696 : decode code 696 = .ok (.iaload, 1) := by decide +kernel
theorem ilaw_696 (hi : i = nI j) (hj : j < Z.2.1) (hN : Z.2.1 < 2 ^ 31) (g : z_J Z mlaw R k n Q 697 ls (.int (Z.2.2.1 j) :: st) h) : z_J Z mlaw R k n Q 696 ls (.int i :: .ref Z.1 :: st) h := z_sld dlaw_696 rfl hi hj hN g
def blaw_697 : zB := [(697, .aload_n 0, 698, nI 0), (698, .iload 4, 700, nI 0), (700, .iconst 2, 701, nI 2), (701, .iadd, 702, nI 0)]
theorem blaw_697_ok : z_ok code 697 blaw_697 702 = true := by decide +kernel
theorem ilaw_697 (hr : z_run 7 blaw_697 ls st = some (ls', st')) (g : z_J Z mlaw R k n Q 702 ls' st' h) : z_J Z mlaw R k n Q 697 ls st h := z_jr blaw_697 blaw_697_ok hr g
theorem dlaw_702 : decode code 702 = .ok (.iaload, 1) := by decide +kernel
theorem ilaw_702 (hi : i = nI j) (hj : j < Z.2.1) (hN : Z.2.1 < 2 ^ 31) (g : z_J Z mlaw R k n Q 703 ls (.int (Z.2.2.1 j) :: st) h) : z_J Z mlaw R k n Q 702 ls (.int i :: .ref Z.1 :: st) h := z_sld dlaw_702 rfl hi hj hN g
def blaw_703 : zB := [(703, .aload_n 0, 704, nI 0), (704, .iload 4, 706, nI 0), (706, .iconst 3, 707, nI 3), (707, .iadd, 708, nI 0)]
theorem blaw_703_ok : z_ok code 703 blaw_703 708 = true := by decide +kernel
theorem ilaw_703 (hr : z_run 7 blaw_703 ls st = some (ls', st')) (g : z_J Z mlaw R k n Q 708 ls' st' h) : z_J Z mlaw R k n Q 703 ls st h := z_jr blaw_703 blaw_703_ok hr g
theorem dlaw_708 : decode code 708 = .ok (.iaload, 1) := by decide +kernel
theorem ilaw_708 (hi : i = nI j) (hj : j < Z.2.1) (hN : Z.2.1 < 2 ^ 31) (g : z_J Z mlaw R k n Q 709 ls (.int (Z.2.2.1 j) :: st) h) : z_J Z mlaw R k n Q 708 ls (.int i :: .ref Z.1 :: st) h := z_sld dlaw_708 rfl hi hj hN g
def blaw_709 : zB := [(709, .aload_n 0, 710, nI 0), (710, .iload 4, 712, nI 0), (712, .iconst 4, 713, nI 4), (713, .iadd, 714, nI 0)]
theorem blaw_709_ok : z_ok code 709 blaw_709 714 = true := by decide +kernel
theorem ilaw_709 (hr : z_run 7 blaw_709 ls st = some (ls', st')) (g : z_J Z mlaw R k n Q 714 ls' st' h) : z_J Z mlaw R k n Q 709 ls st h := z_jr blaw_709 blaw_709_ok hr g
theorem dlaw_714 : decode code 714 = .ok (.iaload, 1) := by decide +kernel
theorem ilaw_714 (hi : i = nI j) (hj : j < Z.2.1) (hN : Z.2.1 < 2 ^ 31) (g : z_J Z mlaw R k n Q 715 ls (.int (Z.2.2.1 j) :: st) h) : z_J Z mlaw R k n Q 714 ls (.int i :: .ref Z.1 :: st) h := z_sld dlaw_714 rfl hi hj hN g
def blaw_715 : zB := [(715, .aload_n 3, 716, nI 0)]
theorem blaw_715_ok : z_ok code 715 blaw_715 716 = true := by decide +kernel
theorem ilaw_715 (hr : z_run 7 blaw_715 ls st = some (ls', st')) (g : z_J Z mlaw R k n Q 716 ls' st' h) : z_J Z mlaw R k n Q 715 ls st h := z_jr blaw_715 blaw_715_ok hr g
theorem dlaw_716 : decode code 716 = .ok (.invokestatic 117, 3) := by decide +kernel
theorem ilaw_716 (ha : z_args 6 st [] = some (As, rest)) (hc : z_chk rest As 7 = true) (hR : z_rm R R' 7 k n) (gc : z_J Z mL_install R' 0 0 Q' 0 As [] h) (kr : ∀ (v : Option Value) (h' : zH), Q' (.inl v) h' → z_J Z mlaw R (k + R'.cells) (n + R'.slots) Q 719 ls (v.toList ++ rest) h') (kx : ∀ (E : String) (h' : zH), Q' (.inr E) h' → z_JX Z mlaw R (k + R'.cells) (n + R'.slots) Q 716 ls E h') : z_J Z mlaw R k n Q 716 ls st h := z_callS (M' := mL_install) dlaw_716 rfl cs_L_117 gw507 ha hR (z_chk1 hc) (z_chk2 hc) (z_chk3 hc) gc kr kx
def blaw_719 : zB := [(719, .istore 5, 721, nI 0), (721, .aload_n 2, 722, nI 0), (722, .aload_n 0, 723, nI 0), (723, .iload 4, 725, nI 0), (725, .iconst 1, 726, nI 1), (726, .iadd, 727, nI 0)]
theorem blaw_719_ok : z_ok code 719 blaw_719 727 = true := by decide +kernel
theorem ilaw_719 (hr : z_run 7 blaw_719 ls st = some (ls', st')) (g : z_J Z mlaw R k n Q 727 ls' st' h) : z_J Z mlaw R k n Q 719 ls st h := z_jr blaw_719 blaw_719_ok hr g
theorem dlaw_727 : decode code 727 = .ok (.iaload, 1) := by decide +kernel
theorem ilaw_727 (hi : i = nI j) (hj : j < Z.2.1) (hN : Z.2.1 < 2 ^ 31) (g : z_J Z mlaw R k n Q 728 ls (.int (Z.2.2.1 j) :: st) h) : z_J Z mlaw R k n Q 727 ls (.int i :: .ref Z.1 :: st) h := z_sld dlaw_727 rfl hi hj hN g
def blaw_728 : zB := [(728, .aload_n 0, 729, nI 0), (729, .iload 4, 731, nI 0), (731, .iconst 2, 732, nI 2), (732, .iadd, 733, nI 0)]
theorem blaw_728_ok : z_ok code 728 blaw_728 733 = true := by decide +kernel
theorem ilaw_728 (hr : z_run 7 blaw_728 ls st = some (ls', st')) (g : z_J Z mlaw R k n Q 733 ls' st' h) : z_J Z mlaw R k n Q 728 ls st h := z_jr blaw_728 blaw_728_ok hr g
theorem dlaw_733 : decode code 733 = .ok (.iaload, 1) := by decide +kernel
theorem ilaw_733 (hi : i = nI j) (hj : j < Z.2.1) (hN : Z.2.1 < 2 ^ 31) (g : z_J Z mlaw R k n Q 734 ls (.int (Z.2.2.1 j) :: st) h) : z_J Z mlaw R k n Q 733 ls (.int i :: .ref Z.1 :: st) h := z_sld dlaw_733 rfl hi hj hN g
def blaw_734 : zB := [(734, .aload_n 0, 735, nI 0), (735, .iload 4, 737, nI 0), (737, .iconst 3, 738, nI 3), (738, .iadd, 739, nI 0)]
theorem blaw_734_ok : z_ok code 734 blaw_734 739 = true := by decide +kernel
theorem ilaw_734 (hr : z_run 7 blaw_734 ls st = some (ls', st')) (g : z_J Z mlaw R k n Q 739 ls' st' h) : z_J Z mlaw R k n Q 734 ls st h := z_jr blaw_734 blaw_734_ok hr g
theorem dlaw_739 : decode code 739 = .ok (.iaload, 1) := by decide +kernel
theorem ilaw_739 (hi : i = nI j) (hj : j < Z.2.1) (hN : Z.2.1 < 2 ^ 31) (g : z_J Z mlaw R k n Q 740 ls (.int (Z.2.2.1 j) :: st) h) : z_J Z mlaw R k n Q 739 ls (.int i :: .ref Z.1 :: st) h := z_sld dlaw_739 rfl hi hj hN g
def blaw_740 : zB := [(740, .aload_n 0, 741, nI 0), (741, .iload 4, 743, nI 0), (743, .iconst 4, 744, nI 4), (744, .iadd, 745, nI 0)]
theorem blaw_740_ok : z_ok code 740 blaw_740 745 = true := by decide +kernel
theorem ilaw_740 (hr : z_run 7 blaw_740 ls st = some (ls', st')) (g : z_J Z mlaw R k n Q 745 ls' st' h) : z_J Z mlaw R k n Q 740 ls st h := z_jr blaw_740 blaw_740_ok hr g
theorem dlaw_745 : decode code 745 = .ok (.iaload, 1) := by decide +kernel
theorem ilaw_745 (hi : i = nI j) (hj : j < Z.2.1) (hN : Z.2.1 < 2 ^ 31) (g : z_J Z mlaw R k n Q 746 ls (.int (Z.2.2.1 j) :: st) h) : z_J Z mlaw R k n Q 745 ls (.int i :: .ref Z.1 :: st) h := z_sld dlaw_745 rfl hi hj hN g
theorem dlaw_746 : decode code 746 = .ok (.invokevirtual 120, 3) := by decide +kernel
theorem ilaw_746 (ha : z_args 4 st [] = some (As, .ref b :: rest)) (hc : z_chk rest (.ref b :: As) 6 = true) (hh : h r = some (b, .inr (7, fs))) (hR : z_rm R R' 6 k n) (gc : z_J Z mX6_install R' 0 0 Q' 0 (.ref b :: As) [] h) (kr : ∀ (v : Option Value) (h' : zH), Q' (.inl v) h' → z_J Z mlaw R (k + R'.cells) (n + R'.slots) Q 749 ls (v.toList ++ rest) h') (kx : ∀ (E : String) (h' : zH), Q' (.inr E) h' → z_JX Z mlaw R (k + R'.cells) (n + R'.slots) Q 746 ls E h') : z_J Z mlaw R k n Q 746 ls st h := z_callV (M' := mX6_install) dlaw_746 rfl cs_L_120 rfl gw851 gw852 ha hh (ci := 7) rfl hR (z_chk1 hc) (z_chk2 hc) (z_chk3 hc) gc kr kx
def blaw_749 : zB := [(749, .istore 6, 751, nI 0), (751, .aload_n 2, 752, nI 0)]
theorem blaw_749_ok : z_ok code 749 blaw_749 752 = true := by decide +kernel
theorem ilaw_749 (hr : z_run 7 blaw_749 ls st = some (ls', st')) (g : z_J Z mlaw R k n Q 752 ls' st' h) : z_J Z mlaw R k n Q 749 ls st h := z_jr blaw_749 blaw_749_ok hr g
theorem dlaw_752 : decode code 752 = .ok (.invokevirtual 85, 3) := by decide +kernel
theorem ilaw_752 (ha : z_args 0 st [] = some (As, .ref b :: rest)) (hc : z_chk rest (.ref b :: As) 1 = true) (hh : h r = some (b, .inr (7, fs))) (hR : z_rm R R' 1 k n) (gc : z_J Z mX6_thrown R' 0 0 Q' 0 (.ref b :: As) [] h) (kr : ∀ (v : Option Value) (h' : zH), Q' (.inl v) h' → z_J Z mlaw R (k + R'.cells) (n + R'.slots) Q 755 ls (v.toList ++ rest) h') (kx : ∀ (E : String) (h' : zH), Q' (.inr E) h' → z_JX Z mlaw R (k + R'.cells) (n + R'.slots) Q 752 ls E h') : z_J Z mlaw R k n Q 752 ls st h := z_callV (M' := mX6_thrown) dlaw_752 rfl cs_L_85 rfl gw793 gw794 ha hh (ci := 7) rfl hR (z_chk1 hc) (z_chk2 hc) (z_chk3 hc) gc kr kx
def blaw_755 : zB := [(755, .iload 5, 757, nI 0)]
theorem blaw_755_ok : z_ok code 755 blaw_755 757 = true := by decide +kernel
theorem ilaw_755 (hr : z_run 7 blaw_755 ls st = some (ls', st')) (g : z_J Z mlaw R k n Q 757 ls' st' h) : z_J Z mlaw R k n Q 755 ls st h := z_jr blaw_755 blaw_755_ok hr g
theorem dlaw_757 : decode code 757 = .ok (.if_icmp .eq 5, 3) := by decide +kernel
theorem ilaw_757 (kt : x = y → z_J Z mlaw R k n Q 762 ls st h) (kf : ¬ x = y → z_J Z mlaw R k n Q 760 ls st h) : z_J Z mlaw R k n Q 757 ls (.int y :: .int x :: st) h := z_ic_eq dlaw_757 (tgt := 762) (by decide) rfl kt kf
def blaw_760 : zB := [(760, .iconst 0, 761, nI 0)]
theorem blaw_760_ok : z_ok code 760 blaw_760 761 = true := by decide +kernel
theorem ilaw_760 (hr : z_run 7 blaw_760 ls st = some (ls', st')) (g : z_J Z mlaw R k n Q 761 ls' st' h) : z_J Z mlaw R k n Q 760 ls st h := z_jr blaw_760 blaw_760_ok hr g
theorem dlaw_761 : decode code 761 = .ok (.ireturn, 1) := by decide +kernel
theorem ilaw_761 (hz : narrow .boolean (.int x) = .int x) (hk : k ≤ R.cells) (hs : n ≤ R.slots) (hq : Q (.inl (some (.int x))) h) : z_J Z mlaw R k n Q 761 ls [.int x] h := z_iret (ty := .boolean) dlaw_761 rfl hz hk hs hq
def blaw_762 : zB := [(762, .iload 5, 764, nI 0)]
theorem blaw_762_ok : z_ok code 762 blaw_762 764 = true := by decide +kernel
theorem ilaw_762 (hr : z_run 7 blaw_762 ls st = some (ls', st')) (g : z_J Z mlaw R k n Q 764 ls' st' h) : z_J Z mlaw R k n Q 762 ls st h := z_jr blaw_762 blaw_762_ok hr g
theorem dlaw_764 : decode code 764 = .ok (.ifCond .ne 15, 3) := by decide +kernel
theorem ilaw_764 (kt : ¬ x = 0 → z_J Z mlaw R k n Q 779 ls st h) (kf : x = 0 → z_J Z mlaw R k n Q 767 ls st h) : z_J Z mlaw R k n Q 764 ls (.int x :: st) h := z_if_ne dlaw_764 (tgt := 779) (by decide) rfl kt kf
def blaw_767 : zB := [(767, .aload_n 3, 768, nI 0), (768, .iconst 0, 769, nI 0)]
theorem blaw_767_ok : z_ok code 767 blaw_767 769 = true := by decide +kernel
theorem ilaw_767 (hr : z_run 7 blaw_767 ls st = some (ls', st')) (g : z_J Z mlaw R k n Q 769 ls' st' h) : z_J Z mlaw R k n Q 767 ls st h := z_jr blaw_767 blaw_767_ok hr g
theorem dlaw_769 : decode code 769 = .ok (.laload, 1) := by decide +kernel
theorem ilaw_769 {f : Nat → Int64} (hh : h r = some (a, .inl (2, N, .inr (.inl f)))) (hi : i = nI j) (hj : j < N) (hN : N < 2 ^ 31) (g : z_J Z mlaw R k n Q 770 ls (.long (f j) :: st) h) : z_J Z mlaw R k n Q 769 ls (.int i :: .ref a :: st) h := z_lald dlaw_769 rfl hh hi hj hN g
def blaw_770 : zB := [(770, .iload 6, 772, nI 0), (772, .i2l, 773, nI 0)]
theorem blaw_770_ok : z_ok code 770 blaw_770 773 = true := by decide +kernel
theorem ilaw_770 (hr : z_run 7 blaw_770 ls st = some (ls', st')) (g : z_J Z mlaw R k n Q 773 ls' st' h) : z_J Z mlaw R k n Q 770 ls st h := z_jr blaw_770 blaw_770_ok hr g
theorem dlaw_773 : decode code 773 = .ok (.lcmp, 1) := by decide +kernel
theorem ilaw_773 {xl yl : Int64} (g : z_J Z mlaw R k n Q 774 ls (.int (lg_cmp xl yl) :: st) h) : z_J Z mlaw R k n Q 773 ls (.long yl :: .long xl :: st) h := z_lcmp_id dlaw_773 rfl g
theorem dlaw_774 : decode code 774 = .ok (.ifCond .eq 5, 3) := by decide +kernel
theorem ilaw_774 (kt : x = 0 → z_J Z mlaw R k n Q 779 ls st h) (kf : ¬ x = 0 → z_J Z mlaw R k n Q 777 ls st h) : z_J Z mlaw R k n Q 774 ls (.int x :: st) h := z_if_eq dlaw_774 (tgt := 779) (by decide) rfl kt kf
def blaw_777 : zB := [(777, .iconst 0, 778, nI 0)]
theorem blaw_777_ok : z_ok code 777 blaw_777 778 = true := by decide +kernel
theorem ilaw_777 (hr : z_run 7 blaw_777 ls st = some (ls', st')) (g : z_J Z mlaw R k n Q 778 ls' st' h) : z_J Z mlaw R k n Q 777 ls st h := z_jr blaw_777 blaw_777_ok hr g
theorem dlaw_778 : decode code 778 = .ok (.ireturn, 1) := by decide +kernel
theorem ilaw_778 (hz : narrow .boolean (.int x) = .int x) (hk : k ≤ R.cells) (hs : n ≤ R.slots) (hq : Q (.inl (some (.int x))) h) : z_J Z mlaw R k n Q 778 ls [.int x] h := z_iret (ty := .boolean) dlaw_778 rfl hz hk hs hq
def blaw_779 : zB := [(779, .goto 683, 1462, nI 0)]
theorem blaw_779_ok : z_ok code 779 blaw_779 1462 = true := by decide +kernel
theorem ilaw_779 (hr : z_run 7 blaw_779 ls st = some (ls', st')) (g : z_J Z mlaw R k n Q 1462 ls' st' h) : z_J Z mlaw R k n Q 779 ls st h := z_jr blaw_779 blaw_779_ok hr g
def blaw_782 : zB := [(782, .aload_n 1, 783, nI 0), (783, .aload_n 0, 784, nI 0), (784, .iload 4, 786, nI 0), (786, .iconst 1, 787, nI 1), (787, .iadd, 788, nI 0)]
theorem blaw_782_ok : z_ok code 782 blaw_782 788 = true := by decide +kernel
theorem ilaw_782 (hr : z_run 7 blaw_782 ls st = some (ls', st')) (g : z_J Z mlaw R k n Q 788 ls' st' h) : z_J Z mlaw R k n Q 782 ls st h := z_jr blaw_782 blaw_782_ok hr g
theorem dlaw_788 : decode code 788 = .ok (.iaload, 1) := by decide +kernel
theorem ilaw_788 (hi : i = nI j) (hj : j < Z.2.1) (hN : Z.2.1 < 2 ^ 31) (g : z_J Z mlaw R k n Q 789 ls (.int (Z.2.2.1 j) :: st) h) : z_J Z mlaw R k n Q 788 ls (.int i :: .ref Z.1 :: st) h := z_sld dlaw_788 rfl hi hj hN g
def blaw_789 : zB := [(789, .aload_n 0, 790, nI 0), (790, .iload 4, 792, nI 0), (792, .iconst 2, 793, nI 2), (793, .iadd, 794, nI 0)]
theorem blaw_789_ok : z_ok code 789 blaw_789 794 = true := by decide +kernel
theorem ilaw_789 (hr : z_run 7 blaw_789 ls st = some (ls', st')) (g : z_J Z mlaw R k n Q 794 ls' st' h) : z_J Z mlaw R k n Q 789 ls st h := z_jr blaw_789 blaw_789_ok hr g
theorem dlaw_794 : decode code 794 = .ok (.iaload, 1) := by decide +kernel
theorem ilaw_794 (hi : i = nI j) (hj : j < Z.2.1) (hN : Z.2.1 < 2 ^ 31) (g : z_J Z mlaw R k n Q 795 ls (.int (Z.2.2.1 j) :: st) h) : z_J Z mlaw R k n Q 794 ls (.int i :: .ref Z.1 :: st) h := z_sld dlaw_794 rfl hi hj hN g
def blaw_795 : zB := [(795, .aload_n 0, 796, nI 0), (796, .iload 4, 798, nI 0), (798, .iconst 3, 799, nI 3), (799, .iadd, 800, nI 0)]
theorem blaw_795_ok : z_ok code 795 blaw_795 800 = true := by decide +kernel
theorem ilaw_795 (hr : z_run 7 blaw_795 ls st = some (ls', st')) (g : z_J Z mlaw R k n Q 800 ls' st' h) : z_J Z mlaw R k n Q 795 ls st h := z_jr blaw_795 blaw_795_ok hr g
theorem dlaw_800 : decode code 800 = .ok (.iaload, 1) := by decide +kernel
theorem ilaw_800 (hi : i = nI j) (hj : j < Z.2.1) (hN : Z.2.1 < 2 ^ 31) (g : z_J Z mlaw R k n Q 801 ls (.int (Z.2.2.1 j) :: st) h) : z_J Z mlaw R k n Q 800 ls (.int i :: .ref Z.1 :: st) h := z_sld dlaw_800 rfl hi hj hN g
def blaw_801 : zB := [(801, .aload_n 3, 802, nI 0)]
theorem blaw_801_ok : z_ok code 801 blaw_801 802 = true := by decide +kernel
theorem ilaw_801 (hr : z_run 7 blaw_801 ls st = some (ls', st')) (g : z_J Z mlaw R k n Q 802 ls' st' h) : z_J Z mlaw R k n Q 801 ls st h := z_jr blaw_801 blaw_801_ok hr g
theorem dlaw_802 : decode code 802 = .ok (.invokestatic 121, 3) := by decide +kernel
theorem ilaw_802 (ha : z_args 5 st [] = some (As, rest)) (hc : z_chk rest As 6 = true) (hR : z_rm R R' 6 k n) (gc : z_J Z mL_uninstall R' 0 0 Q' 0 As [] h) (kr : ∀ (v : Option Value) (h' : zH), Q' (.inl v) h' → z_J Z mlaw R (k + R'.cells) (n + R'.slots) Q 805 ls (v.toList ++ rest) h') (kx : ∀ (E : String) (h' : zH), Q' (.inr E) h' → z_JX Z mlaw R (k + R'.cells) (n + R'.slots) Q 802 ls E h') : z_J Z mlaw R k n Q 802 ls st h := z_callS (M' := mL_uninstall) dlaw_802 rfl cs_L_121 gw539 ha hR (z_chk1 hc) (z_chk2 hc) (z_chk3 hc) gc kr kx
def blaw_805 : zB := [(805, .istore 5, 807, nI 0), (807, .aload_n 2, 808, nI 0), (808, .aload_n 0, 809, nI 0), (809, .iload 4, 811, nI 0), (811, .iconst 1, 812, nI 1), (812, .iadd, 813, nI 0)]
theorem blaw_805_ok : z_ok code 805 blaw_805 813 = true := by decide +kernel
theorem ilaw_805 (hr : z_run 7 blaw_805 ls st = some (ls', st')) (g : z_J Z mlaw R k n Q 813 ls' st' h) : z_J Z mlaw R k n Q 805 ls st h := z_jr blaw_805 blaw_805_ok hr g
theorem dlaw_813 : decode code 813 = .ok (.iaload, 1) := by decide +kernel
theorem ilaw_813 (hi : i = nI j) (hj : j < Z.2.1) (hN : Z.2.1 < 2 ^ 31) (g : z_J Z mlaw R k n Q 814 ls (.int (Z.2.2.1 j) :: st) h) : z_J Z mlaw R k n Q 813 ls (.int i :: .ref Z.1 :: st) h := z_sld dlaw_813 rfl hi hj hN g
def blaw_814 : zB := [(814, .aload_n 0, 815, nI 0), (815, .iload 4, 817, nI 0), (817, .iconst 2, 818, nI 2), (818, .iadd, 819, nI 0)]
theorem blaw_814_ok : z_ok code 814 blaw_814 819 = true := by decide +kernel
theorem ilaw_814 (hr : z_run 7 blaw_814 ls st = some (ls', st')) (g : z_J Z mlaw R k n Q 819 ls' st' h) : z_J Z mlaw R k n Q 814 ls st h := z_jr blaw_814 blaw_814_ok hr g
theorem dlaw_819 : decode code 819 = .ok (.iaload, 1) := by decide +kernel
theorem ilaw_819 (hi : i = nI j) (hj : j < Z.2.1) (hN : Z.2.1 < 2 ^ 31) (g : z_J Z mlaw R k n Q 820 ls (.int (Z.2.2.1 j) :: st) h) : z_J Z mlaw R k n Q 819 ls (.int i :: .ref Z.1 :: st) h := z_sld dlaw_819 rfl hi hj hN g
def blaw_820 : zB := [(820, .aload_n 0, 821, nI 0), (821, .iload 4, 823, nI 0), (823, .iconst 3, 824, nI 3), (824, .iadd, 825, nI 0)]
theorem blaw_820_ok : z_ok code 820 blaw_820 825 = true := by decide +kernel
theorem ilaw_820 (hr : z_run 7 blaw_820 ls st = some (ls', st')) (g : z_J Z mlaw R k n Q 825 ls' st' h) : z_J Z mlaw R k n Q 820 ls st h := z_jr blaw_820 blaw_820_ok hr g
theorem dlaw_825 : decode code 825 = .ok (.iaload, 1) := by decide +kernel
theorem ilaw_825 (hi : i = nI j) (hj : j < Z.2.1) (hN : Z.2.1 < 2 ^ 31) (g : z_J Z mlaw R k n Q 826 ls (.int (Z.2.2.1 j) :: st) h) : z_J Z mlaw R k n Q 825 ls (.int i :: .ref Z.1 :: st) h := z_sld dlaw_825 rfl hi hj hN g
theorem dlaw_826 : decode code 826 = .ok (.invokevirtual 124, 3) := by decide +kernel
theorem ilaw_826 (ha : z_args 3 st [] = some (As, .ref b :: rest)) (hc : z_chk rest (.ref b :: As) 6 = true) (hh : h r = some (b, .inr (7, fs))) (hR : z_rm R R' 6 k n) (gc : z_J Z mX6_uninstall R' 0 0 Q' 0 (.ref b :: As) [] h) (kr : ∀ (v : Option Value) (h' : zH), Q' (.inl v) h' → z_J Z mlaw R (k + R'.cells) (n + R'.slots) Q 829 ls (v.toList ++ rest) h') (kx : ∀ (E : String) (h' : zH), Q' (.inr E) h' → z_JX Z mlaw R (k + R'.cells) (n + R'.slots) Q 826 ls E h') : z_J Z mlaw R k n Q 826 ls st h := z_callV (M' := mX6_uninstall) dlaw_826 rfl cs_L_124 rfl gw869 gw870 ha hh (ci := 7) rfl hR (z_chk1 hc) (z_chk2 hc) (z_chk3 hc) gc kr kx
def blaw_829 : zB := [(829, .istore 6, 831, nI 0), (831, .aload_n 2, 832, nI 0)]
theorem blaw_829_ok : z_ok code 829 blaw_829 832 = true := by decide +kernel
theorem ilaw_829 (hr : z_run 7 blaw_829 ls st = some (ls', st')) (g : z_J Z mlaw R k n Q 832 ls' st' h) : z_J Z mlaw R k n Q 829 ls st h := z_jr blaw_829 blaw_829_ok hr g
theorem dlaw_832 : decode code 832 = .ok (.invokevirtual 85, 3) := by decide +kernel
theorem ilaw_832 (ha : z_args 0 st [] = some (As, .ref b :: rest)) (hc : z_chk rest (.ref b :: As) 1 = true) (hh : h r = some (b, .inr (7, fs))) (hR : z_rm R R' 1 k n) (gc : z_J Z mX6_thrown R' 0 0 Q' 0 (.ref b :: As) [] h) (kr : ∀ (v : Option Value) (h' : zH), Q' (.inl v) h' → z_J Z mlaw R (k + R'.cells) (n + R'.slots) Q 835 ls (v.toList ++ rest) h') (kx : ∀ (E : String) (h' : zH), Q' (.inr E) h' → z_JX Z mlaw R (k + R'.cells) (n + R'.slots) Q 832 ls E h') : z_J Z mlaw R k n Q 832 ls st h := z_callV (M' := mX6_thrown) dlaw_832 rfl cs_L_85 rfl gw793 gw794 ha hh (ci := 7) rfl hR (z_chk1 hc) (z_chk2 hc) (z_chk3 hc) gc kr kx
def blaw_835 : zB := [(835, .iload 5, 837, nI 0)]
theorem blaw_835_ok : z_ok code 835 blaw_835 837 = true := by decide +kernel
theorem ilaw_835 (hr : z_run 7 blaw_835 ls st = some (ls', st')) (g : z_J Z mlaw R k n Q 837 ls' st' h) : z_J Z mlaw R k n Q 835 ls st h := z_jr blaw_835 blaw_835_ok hr g
theorem dlaw_837 : decode code 837 = .ok (.if_icmp .eq 5, 3) := by decide +kernel
theorem ilaw_837 (kt : x = y → z_J Z mlaw R k n Q 842 ls st h) (kf : ¬ x = y → z_J Z mlaw R k n Q 840 ls st h) : z_J Z mlaw R k n Q 837 ls (.int y :: .int x :: st) h := z_ic_eq dlaw_837 (tgt := 842) (by decide) rfl kt kf
def blaw_840 : zB := [(840, .iconst 0, 841, nI 0)]
theorem blaw_840_ok : z_ok code 840 blaw_840 841 = true := by decide +kernel
theorem ilaw_840 (hr : z_run 7 blaw_840 ls st = some (ls', st')) (g : z_J Z mlaw R k n Q 841 ls' st' h) : z_J Z mlaw R k n Q 840 ls st h := z_jr blaw_840 blaw_840_ok hr g
theorem dlaw_841 : decode code 841 = .ok (.ireturn, 1) := by decide +kernel
theorem ilaw_841 (hz : narrow .boolean (.int x) = .int x) (hk : k ≤ R.cells) (hs : n ≤ R.slots) (hq : Q (.inl (some (.int x))) h) : z_J Z mlaw R k n Q 841 ls [.int x] h := z_iret (ty := .boolean) dlaw_841 rfl hz hk hs hq
def blaw_842 : zB := [(842, .iload 5, 844, nI 0)]
theorem blaw_842_ok : z_ok code 842 blaw_842 844 = true := by decide +kernel
theorem ilaw_842 (hr : z_run 7 blaw_842 ls st = some (ls', st')) (g : z_J Z mlaw R k n Q 844 ls' st' h) : z_J Z mlaw R k n Q 842 ls st h := z_jr blaw_842 blaw_842_ok hr g
theorem dlaw_844 : decode code 844 = .ok (.ifCond .ne 15, 3) := by decide +kernel
theorem ilaw_844 (kt : ¬ x = 0 → z_J Z mlaw R k n Q 859 ls st h) (kf : x = 0 → z_J Z mlaw R k n Q 847 ls st h) : z_J Z mlaw R k n Q 844 ls (.int x :: st) h := z_if_ne dlaw_844 (tgt := 859) (by decide) rfl kt kf
def blaw_847 : zB := [(847, .aload_n 3, 848, nI 0), (848, .iconst 0, 849, nI 0)]
theorem blaw_847_ok : z_ok code 847 blaw_847 849 = true := by decide +kernel
theorem ilaw_847 (hr : z_run 7 blaw_847 ls st = some (ls', st')) (g : z_J Z mlaw R k n Q 849 ls' st' h) : z_J Z mlaw R k n Q 847 ls st h := z_jr blaw_847 blaw_847_ok hr g
theorem dlaw_849 : decode code 849 = .ok (.laload, 1) := by decide +kernel
theorem ilaw_849 {f : Nat → Int64} (hh : h r = some (a, .inl (2, N, .inr (.inl f)))) (hi : i = nI j) (hj : j < N) (hN : N < 2 ^ 31) (g : z_J Z mlaw R k n Q 850 ls (.long (f j) :: st) h) : z_J Z mlaw R k n Q 849 ls (.int i :: .ref a :: st) h := z_lald dlaw_849 rfl hh hi hj hN g
def blaw_850 : zB := [(850, .iload 6, 852, nI 0), (852, .i2l, 853, nI 0)]
theorem blaw_850_ok : z_ok code 850 blaw_850 853 = true := by decide +kernel
theorem ilaw_850 (hr : z_run 7 blaw_850 ls st = some (ls', st')) (g : z_J Z mlaw R k n Q 853 ls' st' h) : z_J Z mlaw R k n Q 850 ls st h := z_jr blaw_850 blaw_850_ok hr g
theorem dlaw_853 : decode code 853 = .ok (.lcmp, 1) := by decide +kernel
theorem ilaw_853 {xl yl : Int64} (g : z_J Z mlaw R k n Q 854 ls (.int (lg_cmp xl yl) :: st) h) : z_J Z mlaw R k n Q 853 ls (.long yl :: .long xl :: st) h := z_lcmp_id dlaw_853 rfl g
theorem dlaw_854 : decode code 854 = .ok (.ifCond .eq 5, 3) := by decide +kernel
theorem ilaw_854 (kt : x = 0 → z_J Z mlaw R k n Q 859 ls st h) (kf : ¬ x = 0 → z_J Z mlaw R k n Q 857 ls st h) : z_J Z mlaw R k n Q 854 ls (.int x :: st) h := z_if_eq dlaw_854 (tgt := 859) (by decide) rfl kt kf
def blaw_857 : zB := [(857, .iconst 0, 858, nI 0)]
theorem blaw_857_ok : z_ok code 857 blaw_857 858 = true := by decide +kernel
theorem ilaw_857 (hr : z_run 7 blaw_857 ls st = some (ls', st')) (g : z_J Z mlaw R k n Q 858 ls' st' h) : z_J Z mlaw R k n Q 857 ls st h := z_jr blaw_857 blaw_857_ok hr g
theorem dlaw_858 : decode code 858 = .ok (.ireturn, 1) := by decide +kernel
theorem ilaw_858 (hz : narrow .boolean (.int x) = .int x) (hk : k ≤ R.cells) (hs : n ≤ R.slots) (hq : Q (.inl (some (.int x))) h) : z_J Z mlaw R k n Q 858 ls [.int x] h := z_iret (ty := .boolean) dlaw_858 rfl hz hk hs hq
def blaw_859 : zB := [(859, .goto 603, 1462, nI 0)]
theorem blaw_859_ok : z_ok code 859 blaw_859 1462 = true := by decide +kernel
theorem ilaw_859 (hr : z_run 7 blaw_859 ls st = some (ls', st')) (g : z_J Z mlaw R k n Q 1462 ls' st' h) : z_J Z mlaw R k n Q 859 ls st h := z_jr blaw_859 blaw_859_ok hr g
def blaw_862 : zB := [(862, .aload_n 1, 863, nI 0), (863, .aload_n 0, 864, nI 0), (864, .iload 4, 866, nI 0), (866, .iconst 1, 867, nI 1), (867, .iadd, 868, nI 0)]
theorem blaw_862_ok : z_ok code 862 blaw_862 868 = true := by decide +kernel
theorem ilaw_862 (hr : z_run 7 blaw_862 ls st = some (ls', st')) (g : z_J Z mlaw R k n Q 868 ls' st' h) : z_J Z mlaw R k n Q 862 ls st h := z_jr blaw_862 blaw_862_ok hr g
theorem dlaw_868 : decode code 868 = .ok (.iaload, 1) := by decide +kernel
theorem ilaw_868 (hi : i = nI j) (hj : j < Z.2.1) (hN : Z.2.1 < 2 ^ 31) (g : z_J Z mlaw R k n Q 869 ls (.int (Z.2.2.1 j) :: st) h) : z_J Z mlaw R k n Q 868 ls (.int i :: .ref Z.1 :: st) h := z_sld dlaw_868 rfl hi hj hN g
def blaw_869 : zB := [(869, .aload_n 0, 870, nI 0), (870, .iload 4, 872, nI 0), (872, .iconst 2, 873, nI 2), (873, .iadd, 874, nI 0)]
theorem blaw_869_ok : z_ok code 869 blaw_869 874 = true := by decide +kernel
theorem ilaw_869 (hr : z_run 7 blaw_869 ls st = some (ls', st')) (g : z_J Z mlaw R k n Q 874 ls' st' h) : z_J Z mlaw R k n Q 869 ls st h := z_jr blaw_869 blaw_869_ok hr g
theorem dlaw_874 : decode code 874 = .ok (.iaload, 1) := by decide +kernel
theorem ilaw_874 (hi : i = nI j) (hj : j < Z.2.1) (hN : Z.2.1 < 2 ^ 31) (g : z_J Z mlaw R k n Q 875 ls (.int (Z.2.2.1 j) :: st) h) : z_J Z mlaw R k n Q 874 ls (.int i :: .ref Z.1 :: st) h := z_sld dlaw_874 rfl hi hj hN g
def blaw_875 : zB := [(875, .aload_n 0, 876, nI 0), (876, .iload 4, 878, nI 0), (878, .iconst 3, 879, nI 3), (879, .iadd, 880, nI 0)]
theorem blaw_875_ok : z_ok code 875 blaw_875 880 = true := by decide +kernel
theorem ilaw_875 (hr : z_run 7 blaw_875 ls st = some (ls', st')) (g : z_J Z mlaw R k n Q 880 ls' st' h) : z_J Z mlaw R k n Q 875 ls st h := z_jr blaw_875 blaw_875_ok hr g
theorem dlaw_880 : decode code 880 = .ok (.iaload, 1) := by decide +kernel
theorem ilaw_880 (hi : i = nI j) (hj : j < Z.2.1) (hN : Z.2.1 < 2 ^ 31) (g : z_J Z mlaw R k n Q 881 ls (.int (Z.2.2.1 j) :: st) h) : z_J Z mlaw R k n Q 880 ls (.int i :: .ref Z.1 :: st) h := z_sld dlaw_880 rfl hi hj hN g
def blaw_881 : zB := [(881, .aload_n 3, 882, nI 0)]
theorem blaw_881_ok : z_ok code 881 blaw_881 882 = true := by decide +kernel
theorem ilaw_881 (hr : z_run 7 blaw_881 ls st = some (ls', st')) (g : z_J Z mlaw R k n Q 882 ls' st' h) : z_J Z mlaw R k n Q 881 ls st h := z_jr blaw_881 blaw_881_ok hr g
theorem dlaw_882 : decode code 882 = .ok (.invokestatic 125, 3) := by decide +kernel
theorem ilaw_882 (ha : z_args 5 st [] = some (As, rest)) (hc : z_chk rest As 6 = true) (hR : z_rm R R' 6 k n) (gc : z_J Z mL_runs R' 0 0 Q' 0 As [] h) (kr : ∀ (v : Option Value) (h' : zH), Q' (.inl v) h' → z_J Z mlaw R (k + R'.cells) (n + R'.slots) Q 885 ls (v.toList ++ rest) h') (kx : ∀ (E : String) (h' : zH), Q' (.inr E) h' → z_JX Z mlaw R (k + R'.cells) (n + R'.slots) Q 882 ls E h') : z_J Z mlaw R k n Q 882 ls st h := z_callS (M' := mL_runs) dlaw_882 rfl cs_L_125 gw552 ha hR (z_chk1 hc) (z_chk2 hc) (z_chk3 hc) gc kr kx
def blaw_885 : zB := [(885, .istore 5, 887, nI 0), (887, .aload_n 2, 888, nI 0), (888, .aload_n 0, 889, nI 0), (889, .iload 4, 891, nI 0), (891, .iconst 1, 892, nI 1), (892, .iadd, 893, nI 0)]
theorem blaw_885_ok : z_ok code 885 blaw_885 893 = true := by decide +kernel
theorem ilaw_885 (hr : z_run 7 blaw_885 ls st = some (ls', st')) (g : z_J Z mlaw R k n Q 893 ls' st' h) : z_J Z mlaw R k n Q 885 ls st h := z_jr blaw_885 blaw_885_ok hr g
theorem dlaw_893 : decode code 893 = .ok (.iaload, 1) := by decide +kernel
theorem ilaw_893 (hi : i = nI j) (hj : j < Z.2.1) (hN : Z.2.1 < 2 ^ 31) (g : z_J Z mlaw R k n Q 894 ls (.int (Z.2.2.1 j) :: st) h) : z_J Z mlaw R k n Q 893 ls (.int i :: .ref Z.1 :: st) h := z_sld dlaw_893 rfl hi hj hN g
def blaw_894 : zB := [(894, .aload_n 0, 895, nI 0), (895, .iload 4, 897, nI 0), (897, .iconst 2, 898, nI 2), (898, .iadd, 899, nI 0)]
theorem blaw_894_ok : z_ok code 894 blaw_894 899 = true := by decide +kernel
theorem ilaw_894 (hr : z_run 7 blaw_894 ls st = some (ls', st')) (g : z_J Z mlaw R k n Q 899 ls' st' h) : z_J Z mlaw R k n Q 894 ls st h := z_jr blaw_894 blaw_894_ok hr g
theorem dlaw_899 : decode code 899 = .ok (.iaload, 1) := by decide +kernel
theorem ilaw_899 (hi : i = nI j) (hj : j < Z.2.1) (hN : Z.2.1 < 2 ^ 31) (g : z_J Z mlaw R k n Q 900 ls (.int (Z.2.2.1 j) :: st) h) : z_J Z mlaw R k n Q 899 ls (.int i :: .ref Z.1 :: st) h := z_sld dlaw_899 rfl hi hj hN g
def blaw_900 : zB := [(900, .aload_n 0, 901, nI 0), (901, .iload 4, 903, nI 0), (903, .iconst 3, 904, nI 3), (904, .iadd, 905, nI 0)]
theorem blaw_900_ok : z_ok code 900 blaw_900 905 = true := by decide +kernel
theorem ilaw_900 (hr : z_run 7 blaw_900 ls st = some (ls', st')) (g : z_J Z mlaw R k n Q 905 ls' st' h) : z_J Z mlaw R k n Q 900 ls st h := z_jr blaw_900 blaw_900_ok hr g
theorem dlaw_905 : decode code 905 = .ok (.iaload, 1) := by decide +kernel
theorem ilaw_905 (hi : i = nI j) (hj : j < Z.2.1) (hN : Z.2.1 < 2 ^ 31) (g : z_J Z mlaw R k n Q 906 ls (.int (Z.2.2.1 j) :: st) h) : z_J Z mlaw R k n Q 905 ls (.int i :: .ref Z.1 :: st) h := z_sld dlaw_905 rfl hi hj hN g
theorem dlaw_906 : decode code 906 = .ok (.invokevirtual 127, 3) := by decide +kernel
theorem ilaw_906 (ha : z_args 3 st [] = some (As, .ref b :: rest)) (hc : z_chk rest (.ref b :: As) 4 = true) (hh : h r = some (b, .inr (7, fs))) (hR : z_rm R R' 4 k n) (gc : z_J Z mX6_runs R' 0 0 Q' 0 (.ref b :: As) [] h) (kr : ∀ (v : Option Value) (h' : zH), Q' (.inl v) h' → z_J Z mlaw R (k + R'.cells) (n + R'.slots) Q 909 ls (v.toList ++ rest) h') (kx : ∀ (E : String) (h' : zH), Q' (.inr E) h' → z_JX Z mlaw R (k + R'.cells) (n + R'.slots) Q 906 ls E h') : z_J Z mlaw R k n Q 906 ls st h := z_callV (M' := mX6_runs) dlaw_906 rfl cs_L_127 rfl gw873 gw874 ha hh (ci := 7) rfl hR (z_chk1 hc) (z_chk2 hc) (z_chk3 hc) gc kr kx
def blaw_909 : zB := [(909, .istore 6, 911, nI 0), (911, .aload_n 2, 912, nI 0)]
theorem blaw_909_ok : z_ok code 909 blaw_909 912 = true := by decide +kernel
theorem ilaw_909 (hr : z_run 7 blaw_909 ls st = some (ls', st')) (g : z_J Z mlaw R k n Q 912 ls' st' h) : z_J Z mlaw R k n Q 909 ls st h := z_jr blaw_909 blaw_909_ok hr g
theorem dlaw_912 : decode code 912 = .ok (.invokevirtual 85, 3) := by decide +kernel
theorem ilaw_912 (ha : z_args 0 st [] = some (As, .ref b :: rest)) (hc : z_chk rest (.ref b :: As) 1 = true) (hh : h r = some (b, .inr (7, fs))) (hR : z_rm R R' 1 k n) (gc : z_J Z mX6_thrown R' 0 0 Q' 0 (.ref b :: As) [] h) (kr : ∀ (v : Option Value) (h' : zH), Q' (.inl v) h' → z_J Z mlaw R (k + R'.cells) (n + R'.slots) Q 915 ls (v.toList ++ rest) h') (kx : ∀ (E : String) (h' : zH), Q' (.inr E) h' → z_JX Z mlaw R (k + R'.cells) (n + R'.slots) Q 912 ls E h') : z_J Z mlaw R k n Q 912 ls st h := z_callV (M' := mX6_thrown) dlaw_912 rfl cs_L_85 rfl gw793 gw794 ha hh (ci := 7) rfl hR (z_chk1 hc) (z_chk2 hc) (z_chk3 hc) gc kr kx
def blaw_915 : zB := [(915, .iload 5, 917, nI 0)]
theorem blaw_915_ok : z_ok code 915 blaw_915 917 = true := by decide +kernel
theorem ilaw_915 (hr : z_run 7 blaw_915 ls st = some (ls', st')) (g : z_J Z mlaw R k n Q 917 ls' st' h) : z_J Z mlaw R k n Q 915 ls st h := z_jr blaw_915 blaw_915_ok hr g
theorem dlaw_917 : decode code 917 = .ok (.if_icmp .eq 5, 3) := by decide +kernel
theorem ilaw_917 (kt : x = y → z_J Z mlaw R k n Q 922 ls st h) (kf : ¬ x = y → z_J Z mlaw R k n Q 920 ls st h) : z_J Z mlaw R k n Q 917 ls (.int y :: .int x :: st) h := z_ic_eq dlaw_917 (tgt := 922) (by decide) rfl kt kf
def blaw_920 : zB := [(920, .iconst 0, 921, nI 0)]
theorem blaw_920_ok : z_ok code 920 blaw_920 921 = true := by decide +kernel
theorem ilaw_920 (hr : z_run 7 blaw_920 ls st = some (ls', st')) (g : z_J Z mlaw R k n Q 921 ls' st' h) : z_J Z mlaw R k n Q 920 ls st h := z_jr blaw_920 blaw_920_ok hr g
theorem dlaw_921 : decode code 921 = .ok (.ireturn, 1) := by decide +kernel
theorem ilaw_921 (hz : narrow .boolean (.int x) = .int x) (hk : k ≤ R.cells) (hs : n ≤ R.slots) (hq : Q (.inl (some (.int x))) h) : z_J Z mlaw R k n Q 921 ls [.int x] h := z_iret (ty := .boolean) dlaw_921 rfl hz hk hs hq
def blaw_922 : zB := [(922, .iload 5, 924, nI 0)]
theorem blaw_922_ok : z_ok code 922 blaw_922 924 = true := by decide +kernel
theorem ilaw_922 (hr : z_run 7 blaw_922 ls st = some (ls', st')) (g : z_J Z mlaw R k n Q 924 ls' st' h) : z_J Z mlaw R k n Q 922 ls st h := z_jr blaw_922 blaw_922_ok hr g
theorem dlaw_924 : decode code 924 = .ok (.ifCond .ne 15, 3) := by decide +kernel
theorem ilaw_924 (kt : ¬ x = 0 → z_J Z mlaw R k n Q 939 ls st h) (kf : x = 0 → z_J Z mlaw R k n Q 927 ls st h) : z_J Z mlaw R k n Q 924 ls (.int x :: st) h := z_if_ne dlaw_924 (tgt := 939) (by decide) rfl kt kf
def blaw_927 : zB := [(927, .aload_n 3, 928, nI 0), (928, .iconst 0, 929, nI 0)]
theorem blaw_927_ok : z_ok code 927 blaw_927 929 = true := by decide +kernel
theorem ilaw_927 (hr : z_run 7 blaw_927 ls st = some (ls', st')) (g : z_J Z mlaw R k n Q 929 ls' st' h) : z_J Z mlaw R k n Q 927 ls st h := z_jr blaw_927 blaw_927_ok hr g
theorem dlaw_929 : decode code 929 = .ok (.laload, 1) := by decide +kernel
theorem ilaw_929 {f : Nat → Int64} (hh : h r = some (a, .inl (2, N, .inr (.inl f)))) (hi : i = nI j) (hj : j < N) (hN : N < 2 ^ 31) (g : z_J Z mlaw R k n Q 930 ls (.long (f j) :: st) h) : z_J Z mlaw R k n Q 929 ls (.int i :: .ref a :: st) h := z_lald dlaw_929 rfl hh hi hj hN g
def blaw_930 : zB := [(930, .iload 6, 932, nI 0), (932, .i2l, 933, nI 0)]
theorem blaw_930_ok : z_ok code 930 blaw_930 933 = true := by decide +kernel
theorem ilaw_930 (hr : z_run 7 blaw_930 ls st = some (ls', st')) (g : z_J Z mlaw R k n Q 933 ls' st' h) : z_J Z mlaw R k n Q 930 ls st h := z_jr blaw_930 blaw_930_ok hr g
theorem dlaw_933 : decode code 933 = .ok (.lcmp, 1) := by decide +kernel
theorem ilaw_933 {xl yl : Int64} (g : z_J Z mlaw R k n Q 934 ls (.int (lg_cmp xl yl) :: st) h) : z_J Z mlaw R k n Q 933 ls (.long yl :: .long xl :: st) h := z_lcmp_id dlaw_933 rfl g
theorem dlaw_934 : decode code 934 = .ok (.ifCond .eq 5, 3) := by decide +kernel
theorem ilaw_934 (kt : x = 0 → z_J Z mlaw R k n Q 939 ls st h) (kf : ¬ x = 0 → z_J Z mlaw R k n Q 937 ls st h) : z_J Z mlaw R k n Q 934 ls (.int x :: st) h := z_if_eq dlaw_934 (tgt := 939) (by decide) rfl kt kf
def blaw_937 : zB := [(937, .iconst 0, 938, nI 0)]
theorem blaw_937_ok : z_ok code 937 blaw_937 938 = true := by decide +kernel
theorem ilaw_937 (hr : z_run 7 blaw_937 ls st = some (ls', st')) (g : z_J Z mlaw R k n Q 938 ls' st' h) : z_J Z mlaw R k n Q 937 ls st h := z_jr blaw_937 blaw_937_ok hr g
theorem dlaw_938 : decode code 938 = .ok (.ireturn, 1) := by decide +kernel
theorem ilaw_938 (hz : narrow .boolean (.int x) = .int x) (hk : k ≤ R.cells) (hs : n ≤ R.slots) (hq : Q (.inl (some (.int x))) h) : z_J Z mlaw R k n Q 938 ls [.int x] h := z_iret (ty := .boolean) dlaw_938 rfl hz hk hs hq
def blaw_939 : zB := [(939, .goto 523, 1462, nI 0)]
theorem blaw_939_ok : z_ok code 939 blaw_939 1462 = true := by decide +kernel
theorem ilaw_939 (hr : z_run 7 blaw_939 ls st = some (ls', st')) (g : z_J Z mlaw R k n Q 1462 ls' st' h) : z_J Z mlaw R k n Q 939 ls st h := z_jr blaw_939 blaw_939_ok hr g
def blaw_942 : zB := [(942, .aload_n 1, 943, nI 0), (943, .aload_n 0, 944, nI 0), (944, .iload 4, 946, nI 0), (946, .iconst 1, 947, nI 1), (947, .iadd, 948, nI 0)]
theorem blaw_942_ok : z_ok code 942 blaw_942 948 = true := by decide +kernel
theorem ilaw_942 (hr : z_run 7 blaw_942 ls st = some (ls', st')) (g : z_J Z mlaw R k n Q 948 ls' st' h) : z_J Z mlaw R k n Q 942 ls st h := z_jr blaw_942 blaw_942_ok hr g
theorem dlaw_948 : decode code 948 = .ok (.iaload, 1) := by decide +kernel
theorem ilaw_948 (hi : i = nI j) (hj : j < Z.2.1) (hN : Z.2.1 < 2 ^ 31) (g : z_J Z mlaw R k n Q 949 ls (.int (Z.2.2.1 j) :: st) h) : z_J Z mlaw R k n Q 948 ls (.int i :: .ref Z.1 :: st) h := z_sld dlaw_948 rfl hi hj hN g
def blaw_949 : zB := [(949, .aload_n 3, 950, nI 0)]
theorem blaw_949_ok : z_ok code 949 blaw_949 950 = true := by decide +kernel
theorem ilaw_949 (hr : z_run 7 blaw_949 ls st = some (ls', st')) (g : z_J Z mlaw R k n Q 950 ls' st' h) : z_J Z mlaw R k n Q 949 ls st h := z_jr blaw_949 blaw_949_ok hr g
theorem dlaw_950 : decode code 950 = .ok (.invokestatic 128, 3) := by decide +kernel
theorem ilaw_950 (ha : z_args 3 st [] = some (As, rest)) (hc : z_chk rest As 4 = true) (hR : z_rm R R' 4 k n) (gc : z_J Z mL_needs R' 0 0 Q' 0 As [] h) (kr : ∀ (v : Option Value) (h' : zH), Q' (.inl v) h' → z_J Z mlaw R (k + R'.cells) (n + R'.slots) Q 953 ls (v.toList ++ rest) h') (kx : ∀ (E : String) (h' : zH), Q' (.inr E) h' → z_JX Z mlaw R (k + R'.cells) (n + R'.slots) Q 950 ls E h') : z_J Z mlaw R k n Q 950 ls st h := z_callS (M' := mL_needs) dlaw_950 rfl cs_L_128 gw563 ha hR (z_chk1 hc) (z_chk2 hc) (z_chk3 hc) gc kr kx
def blaw_953 : zB := [(953, .istore 5, 955, nI 0), (955, .aload_n 2, 956, nI 0), (956, .aload_n 0, 957, nI 0), (957, .iload 4, 959, nI 0), (959, .iconst 1, 960, nI 1), (960, .iadd, 961, nI 0)]
theorem blaw_953_ok : z_ok code 953 blaw_953 961 = true := by decide +kernel
theorem ilaw_953 (hr : z_run 7 blaw_953 ls st = some (ls', st')) (g : z_J Z mlaw R k n Q 961 ls' st' h) : z_J Z mlaw R k n Q 953 ls st h := z_jr blaw_953 blaw_953_ok hr g
theorem dlaw_961 : decode code 961 = .ok (.iaload, 1) := by decide +kernel
theorem ilaw_961 (hi : i = nI j) (hj : j < Z.2.1) (hN : Z.2.1 < 2 ^ 31) (g : z_J Z mlaw R k n Q 962 ls (.int (Z.2.2.1 j) :: st) h) : z_J Z mlaw R k n Q 961 ls (.int i :: .ref Z.1 :: st) h := z_sld dlaw_961 rfl hi hj hN g
theorem dlaw_962 : decode code 962 = .ok (.invokevirtual 131, 3) := by decide +kernel
theorem ilaw_962 (ha : z_args 1 st [] = some (As, .ref b :: rest)) (hc : z_chk rest (.ref b :: As) 2 = true) (hh : h r = some (b, .inr (7, fs))) (hR : z_rm R R' 2 k n) (gc : z_J Z mX6_needs R' 0 0 Q' 0 (.ref b :: As) [] h) (kr : ∀ (v : Option Value) (h' : zH), Q' (.inl v) h' → z_J Z mlaw R (k + R'.cells) (n + R'.slots) Q 965 ls (v.toList ++ rest) h') (kx : ∀ (E : String) (h' : zH), Q' (.inr E) h' → z_JX Z mlaw R (k + R'.cells) (n + R'.slots) Q 962 ls E h') : z_J Z mlaw R k n Q 962 ls st h := z_callV (M' := mX6_needs) dlaw_962 rfl cs_L_131 rfl gw881 gw882 ha hh (ci := 7) rfl hR (z_chk1 hc) (z_chk2 hc) (z_chk3 hc) gc kr kx
def blaw_965 : zB := [(965, .istore 6, 967, nI 0), (967, .aload_n 2, 968, nI 0)]
theorem blaw_965_ok : z_ok code 965 blaw_965 968 = true := by decide +kernel
theorem ilaw_965 (hr : z_run 7 blaw_965 ls st = some (ls', st')) (g : z_J Z mlaw R k n Q 968 ls' st' h) : z_J Z mlaw R k n Q 965 ls st h := z_jr blaw_965 blaw_965_ok hr g
theorem dlaw_968 : decode code 968 = .ok (.invokevirtual 85, 3) := by decide +kernel
theorem ilaw_968 (ha : z_args 0 st [] = some (As, .ref b :: rest)) (hc : z_chk rest (.ref b :: As) 1 = true) (hh : h r = some (b, .inr (7, fs))) (hR : z_rm R R' 1 k n) (gc : z_J Z mX6_thrown R' 0 0 Q' 0 (.ref b :: As) [] h) (kr : ∀ (v : Option Value) (h' : zH), Q' (.inl v) h' → z_J Z mlaw R (k + R'.cells) (n + R'.slots) Q 971 ls (v.toList ++ rest) h') (kx : ∀ (E : String) (h' : zH), Q' (.inr E) h' → z_JX Z mlaw R (k + R'.cells) (n + R'.slots) Q 968 ls E h') : z_J Z mlaw R k n Q 968 ls st h := z_callV (M' := mX6_thrown) dlaw_968 rfl cs_L_85 rfl gw793 gw794 ha hh (ci := 7) rfl hR (z_chk1 hc) (z_chk2 hc) (z_chk3 hc) gc kr kx
def blaw_971 : zB := [(971, .iload 5, 973, nI 0)]
theorem blaw_971_ok : z_ok code 971 blaw_971 973 = true := by decide +kernel
theorem ilaw_971 (hr : z_run 7 blaw_971 ls st = some (ls', st')) (g : z_J Z mlaw R k n Q 973 ls' st' h) : z_J Z mlaw R k n Q 971 ls st h := z_jr blaw_971 blaw_971_ok hr g
theorem dlaw_973 : decode code 973 = .ok (.if_icmp .eq 5, 3) := by decide +kernel
theorem ilaw_973 (kt : x = y → z_J Z mlaw R k n Q 978 ls st h) (kf : ¬ x = y → z_J Z mlaw R k n Q 976 ls st h) : z_J Z mlaw R k n Q 973 ls (.int y :: .int x :: st) h := z_ic_eq dlaw_973 (tgt := 978) (by decide) rfl kt kf
def blaw_976 : zB := [(976, .iconst 0, 977, nI 0)]
theorem blaw_976_ok : z_ok code 976 blaw_976 977 = true := by decide +kernel
theorem ilaw_976 (hr : z_run 7 blaw_976 ls st = some (ls', st')) (g : z_J Z mlaw R k n Q 977 ls' st' h) : z_J Z mlaw R k n Q 976 ls st h := z_jr blaw_976 blaw_976_ok hr g
theorem dlaw_977 : decode code 977 = .ok (.ireturn, 1) := by decide +kernel
theorem ilaw_977 (hz : narrow .boolean (.int x) = .int x) (hk : k ≤ R.cells) (hs : n ≤ R.slots) (hq : Q (.inl (some (.int x))) h) : z_J Z mlaw R k n Q 977 ls [.int x] h := z_iret (ty := .boolean) dlaw_977 rfl hz hk hs hq
def blaw_978 : zB := [(978, .iload 5, 980, nI 0)]
theorem blaw_978_ok : z_ok code 978 blaw_978 980 = true := by decide +kernel
theorem ilaw_978 (hr : z_run 7 blaw_978 ls st = some (ls', st')) (g : z_J Z mlaw R k n Q 980 ls' st' h) : z_J Z mlaw R k n Q 978 ls st h := z_jr blaw_978 blaw_978_ok hr g
theorem dlaw_980 : decode code 980 = .ok (.ifCond .ne 15, 3) := by decide +kernel
theorem ilaw_980 (kt : ¬ x = 0 → z_J Z mlaw R k n Q 995 ls st h) (kf : x = 0 → z_J Z mlaw R k n Q 983 ls st h) : z_J Z mlaw R k n Q 980 ls (.int x :: st) h := z_if_ne dlaw_980 (tgt := 995) (by decide) rfl kt kf
def blaw_983 : zB := [(983, .aload_n 3, 984, nI 0), (984, .iconst 0, 985, nI 0)]
theorem blaw_983_ok : z_ok code 983 blaw_983 985 = true := by decide +kernel
theorem ilaw_983 (hr : z_run 7 blaw_983 ls st = some (ls', st')) (g : z_J Z mlaw R k n Q 985 ls' st' h) : z_J Z mlaw R k n Q 983 ls st h := z_jr blaw_983 blaw_983_ok hr g
theorem dlaw_985 : decode code 985 = .ok (.laload, 1) := by decide +kernel
theorem ilaw_985 {f : Nat → Int64} (hh : h r = some (a, .inl (2, N, .inr (.inl f)))) (hi : i = nI j) (hj : j < N) (hN : N < 2 ^ 31) (g : z_J Z mlaw R k n Q 986 ls (.long (f j) :: st) h) : z_J Z mlaw R k n Q 985 ls (.int i :: .ref a :: st) h := z_lald dlaw_985 rfl hh hi hj hN g
def blaw_986 : zB := [(986, .iload 6, 988, nI 0), (988, .i2l, 989, nI 0)]
theorem blaw_986_ok : z_ok code 986 blaw_986 989 = true := by decide +kernel
theorem ilaw_986 (hr : z_run 7 blaw_986 ls st = some (ls', st')) (g : z_J Z mlaw R k n Q 989 ls' st' h) : z_J Z mlaw R k n Q 986 ls st h := z_jr blaw_986 blaw_986_ok hr g
theorem dlaw_989 : decode code 989 = .ok (.lcmp, 1) := by decide +kernel
theorem ilaw_989 {xl yl : Int64} (g : z_J Z mlaw R k n Q 990 ls (.int (lg_cmp xl yl) :: st) h) : z_J Z mlaw R k n Q 989 ls (.long yl :: .long xl :: st) h := z_lcmp_id dlaw_989 rfl g
theorem dlaw_990 : decode code 990 = .ok (.ifCond .eq 5, 3) := by decide +kernel
theorem ilaw_990 (kt : x = 0 → z_J Z mlaw R k n Q 995 ls st h) (kf : ¬ x = 0 → z_J Z mlaw R k n Q 993 ls st h) : z_J Z mlaw R k n Q 990 ls (.int x :: st) h := z_if_eq dlaw_990 (tgt := 995) (by decide) rfl kt kf
def blaw_993 : zB := [(993, .iconst 0, 994, nI 0)]
theorem blaw_993_ok : z_ok code 993 blaw_993 994 = true := by decide +kernel
theorem ilaw_993 (hr : z_run 7 blaw_993 ls st = some (ls', st')) (g : z_J Z mlaw R k n Q 994 ls' st' h) : z_J Z mlaw R k n Q 993 ls st h := z_jr blaw_993 blaw_993_ok hr g
theorem dlaw_994 : decode code 994 = .ok (.ireturn, 1) := by decide +kernel
theorem ilaw_994 (hz : narrow .boolean (.int x) = .int x) (hk : k ≤ R.cells) (hs : n ≤ R.slots) (hq : Q (.inl (some (.int x))) h) : z_J Z mlaw R k n Q 994 ls [.int x] h := z_iret (ty := .boolean) dlaw_994 rfl hz hk hs hq
def blaw_995 : zB := [(995, .goto 467, 1462, nI 0)]
theorem blaw_995_ok : z_ok code 995 blaw_995 1462 = true := by decide +kernel
theorem ilaw_995 (hr : z_run 7 blaw_995 ls st = some (ls', st')) (g : z_J Z mlaw R k n Q 1462 ls' st' h) : z_J Z mlaw R k n Q 995 ls st h := z_jr blaw_995 blaw_995_ok hr g
def blaw_998 : zB := [(998, .aload_n 1, 999, nI 0), (999, .aload_n 0, 1000, nI 0), (1000, .iload 4, 1002, nI 0), (1002, .iconst 1, 1003, nI 1), (1003, .iadd, 1004, nI 0)]
theorem blaw_998_ok : z_ok code 998 blaw_998 1004 = true := by decide +kernel
theorem ilaw_998 (hr : z_run 7 blaw_998 ls st = some (ls', st')) (g : z_J Z mlaw R k n Q 1004 ls' st' h) : z_J Z mlaw R k n Q 998 ls st h := z_jr blaw_998 blaw_998_ok hr g
theorem dlaw_1004 : decode code 1004 = .ok (.iaload, 1) := by decide +kernel
theorem ilaw_1004 (hi : i = nI j) (hj : j < Z.2.1) (hN : Z.2.1 < 2 ^ 31) (g : z_J Z mlaw R k n Q 1005 ls (.int (Z.2.2.1 j) :: st) h) : z_J Z mlaw R k n Q 1004 ls (.int i :: .ref Z.1 :: st) h := z_sld dlaw_1004 rfl hi hj hN g
def blaw_1005 : zB := [(1005, .aload_n 0, 1006, nI 0), (1006, .iload 4, 1008, nI 0), (1008, .iconst 2, 1009, nI 2), (1009, .iadd, 1010, nI 0)]
theorem blaw_1005_ok : z_ok code 1005 blaw_1005 1010 = true := by decide +kernel
theorem ilaw_1005 (hr : z_run 7 blaw_1005 ls st = some (ls', st')) (g : z_J Z mlaw R k n Q 1010 ls' st' h) : z_J Z mlaw R k n Q 1005 ls st h := z_jr blaw_1005 blaw_1005_ok hr g
theorem dlaw_1010 : decode code 1010 = .ok (.iaload, 1) := by decide +kernel
theorem ilaw_1010 (hi : i = nI j) (hj : j < Z.2.1) (hN : Z.2.1 < 2 ^ 31) (g : z_J Z mlaw R k n Q 1011 ls (.int (Z.2.2.1 j) :: st) h) : z_J Z mlaw R k n Q 1010 ls (.int i :: .ref Z.1 :: st) h := z_sld dlaw_1010 rfl hi hj hN g
def blaw_1011 : zB := [(1011, .aload_n 3, 1012, nI 0)]
theorem blaw_1011_ok : z_ok code 1011 blaw_1011 1012 = true := by decide +kernel
theorem ilaw_1011 (hr : z_run 7 blaw_1011 ls st = some (ls', st')) (g : z_J Z mlaw R k n Q 1012 ls' st' h) : z_J Z mlaw R k n Q 1011 ls st h := z_jr blaw_1011 blaw_1011_ok hr g
theorem dlaw_1012 : decode code 1012 = .ok (.invokestatic 132, 3) := by decide +kernel
theorem ilaw_1012 (ha : z_args 4 st [] = some (As, rest)) (hc : z_chk rest As 5 = true) (hR : z_rm R R' 5 k n) (gc : z_J Z mL_need R' 0 0 Q' 0 As [] h) (kr : ∀ (v : Option Value) (h' : zH), Q' (.inl v) h' → z_J Z mlaw R (k + R'.cells) (n + R'.slots) Q 1015 ls (v.toList ++ rest) h') (kx : ∀ (E : String) (h' : zH), Q' (.inr E) h' → z_JX Z mlaw R (k + R'.cells) (n + R'.slots) Q 1012 ls E h') : z_J Z mlaw R k n Q 1012 ls st h := z_callS (M' := mL_need) dlaw_1012 rfl cs_L_132 gw591 ha hR (z_chk1 hc) (z_chk2 hc) (z_chk3 hc) gc kr kx
def blaw_1015 : zB := [(1015, .istore 5, 1017, nI 0), (1017, .aload_n 2, 1018, nI 0), (1018, .aload_n 0, 1019, nI 0), (1019, .iload 4, 1021, nI 0), (1021, .iconst 1, 1022, nI 1), (1022, .iadd, 1023, nI 0)]
theorem blaw_1015_ok : z_ok code 1015 blaw_1015 1023 = true := by decide +kernel
theorem ilaw_1015 (hr : z_run 7 blaw_1015 ls st = some (ls', st')) (g : z_J Z mlaw R k n Q 1023 ls' st' h) : z_J Z mlaw R k n Q 1015 ls st h := z_jr blaw_1015 blaw_1015_ok hr g
theorem dlaw_1023 : decode code 1023 = .ok (.iaload, 1) := by decide +kernel
theorem ilaw_1023 (hi : i = nI j) (hj : j < Z.2.1) (hN : Z.2.1 < 2 ^ 31) (g : z_J Z mlaw R k n Q 1024 ls (.int (Z.2.2.1 j) :: st) h) : z_J Z mlaw R k n Q 1023 ls (.int i :: .ref Z.1 :: st) h := z_sld dlaw_1023 rfl hi hj hN g
def blaw_1024 : zB := [(1024, .aload_n 0, 1025, nI 0), (1025, .iload 4, 1027, nI 0), (1027, .iconst 2, 1028, nI 2), (1028, .iadd, 1029, nI 0)]
theorem blaw_1024_ok : z_ok code 1024 blaw_1024 1029 = true := by decide +kernel
theorem ilaw_1024 (hr : z_run 7 blaw_1024 ls st = some (ls', st')) (g : z_J Z mlaw R k n Q 1029 ls' st' h) : z_J Z mlaw R k n Q 1024 ls st h := z_jr blaw_1024 blaw_1024_ok hr g
theorem dlaw_1029 : decode code 1029 = .ok (.iaload, 1) := by decide +kernel
theorem ilaw_1029 (hi : i = nI j) (hj : j < Z.2.1) (hN : Z.2.1 < 2 ^ 31) (g : z_J Z mlaw R k n Q 1030 ls (.int (Z.2.2.1 j) :: st) h) : z_J Z mlaw R k n Q 1029 ls (.int i :: .ref Z.1 :: st) h := z_sld dlaw_1029 rfl hi hj hN g
theorem dlaw_1030 : decode code 1030 = .ok (.invokevirtual 134, 3) := by decide +kernel
theorem ilaw_1030 (ha : z_args 2 st [] = some (As, .ref b :: rest)) (hc : z_chk rest (.ref b :: As) 3 = true) (hh : h r = some (b, .inr (7, fs))) (hR : z_rm R R' 3 k n) (gc : z_J Z mX6_need R' 0 0 Q' 0 (.ref b :: As) [] h) (kr : ∀ (v : Option Value) (h' : zH), Q' (.inl v) h' → z_J Z mlaw R (k + R'.cells) (n + R'.slots) Q 1033 ls (v.toList ++ rest) h') (kx : ∀ (E : String) (h' : zH), Q' (.inr E) h' → z_JX Z mlaw R (k + R'.cells) (n + R'.slots) Q 1030 ls E h') : z_J Z mlaw R k n Q 1030 ls st h := z_callV (M' := mX6_need) dlaw_1030 rfl cs_L_134 rfl gw889 gw890 ha hh (ci := 7) rfl hR (z_chk1 hc) (z_chk2 hc) (z_chk3 hc) gc kr kx
def blaw_1033 : zB := [(1033, .istore 6, 1035, nI 0), (1035, .aload_n 2, 1036, nI 0)]
theorem blaw_1033_ok : z_ok code 1033 blaw_1033 1036 = true := by decide +kernel
theorem ilaw_1033 (hr : z_run 7 blaw_1033 ls st = some (ls', st')) (g : z_J Z mlaw R k n Q 1036 ls' st' h) : z_J Z mlaw R k n Q 1033 ls st h := z_jr blaw_1033 blaw_1033_ok hr g
theorem dlaw_1036 : decode code 1036 = .ok (.invokevirtual 85, 3) := by decide +kernel
theorem ilaw_1036 (ha : z_args 0 st [] = some (As, .ref b :: rest)) (hc : z_chk rest (.ref b :: As) 1 = true) (hh : h r = some (b, .inr (7, fs))) (hR : z_rm R R' 1 k n) (gc : z_J Z mX6_thrown R' 0 0 Q' 0 (.ref b :: As) [] h) (kr : ∀ (v : Option Value) (h' : zH), Q' (.inl v) h' → z_J Z mlaw R (k + R'.cells) (n + R'.slots) Q 1039 ls (v.toList ++ rest) h') (kx : ∀ (E : String) (h' : zH), Q' (.inr E) h' → z_JX Z mlaw R (k + R'.cells) (n + R'.slots) Q 1036 ls E h') : z_J Z mlaw R k n Q 1036 ls st h := z_callV (M' := mX6_thrown) dlaw_1036 rfl cs_L_85 rfl gw793 gw794 ha hh (ci := 7) rfl hR (z_chk1 hc) (z_chk2 hc) (z_chk3 hc) gc kr kx
def blaw_1039 : zB := [(1039, .iload 5, 1041, nI 0)]
theorem blaw_1039_ok : z_ok code 1039 blaw_1039 1041 = true := by decide +kernel
theorem ilaw_1039 (hr : z_run 7 blaw_1039 ls st = some (ls', st')) (g : z_J Z mlaw R k n Q 1041 ls' st' h) : z_J Z mlaw R k n Q 1039 ls st h := z_jr blaw_1039 blaw_1039_ok hr g
theorem dlaw_1041 : decode code 1041 = .ok (.if_icmp .eq 5, 3) := by decide +kernel
theorem ilaw_1041 (kt : x = y → z_J Z mlaw R k n Q 1046 ls st h) (kf : ¬ x = y → z_J Z mlaw R k n Q 1044 ls st h) : z_J Z mlaw R k n Q 1041 ls (.int y :: .int x :: st) h := z_ic_eq dlaw_1041 (tgt := 1046) (by decide) rfl kt kf
def blaw_1044 : zB := [(1044, .iconst 0, 1045, nI 0)]
theorem blaw_1044_ok : z_ok code 1044 blaw_1044 1045 = true := by decide +kernel
theorem ilaw_1044 (hr : z_run 7 blaw_1044 ls st = some (ls', st')) (g : z_J Z mlaw R k n Q 1045 ls' st' h) : z_J Z mlaw R k n Q 1044 ls st h := z_jr blaw_1044 blaw_1044_ok hr g
theorem dlaw_1045 : decode code 1045 = .ok (.ireturn, 1) := by decide +kernel
theorem ilaw_1045 (hz : narrow .boolean (.int x) = .int x) (hk : k ≤ R.cells) (hs : n ≤ R.slots) (hq : Q (.inl (some (.int x))) h) : z_J Z mlaw R k n Q 1045 ls [.int x] h := z_iret (ty := .boolean) dlaw_1045 rfl hz hk hs hq
def blaw_1046 : zB := [(1046, .iload 5, 1048, nI 0)]
theorem blaw_1046_ok : z_ok code 1046 blaw_1046 1048 = true := by decide +kernel
theorem ilaw_1046 (hr : z_run 7 blaw_1046 ls st = some (ls', st')) (g : z_J Z mlaw R k n Q 1048 ls' st' h) : z_J Z mlaw R k n Q 1046 ls st h := z_jr blaw_1046 blaw_1046_ok hr g
theorem dlaw_1048 : decode code 1048 = .ok (.ifCond .ne 15, 3) := by decide +kernel
theorem ilaw_1048 (kt : ¬ x = 0 → z_J Z mlaw R k n Q 1063 ls st h) (kf : x = 0 → z_J Z mlaw R k n Q 1051 ls st h) : z_J Z mlaw R k n Q 1048 ls (.int x :: st) h := z_if_ne dlaw_1048 (tgt := 1063) (by decide) rfl kt kf
def blaw_1051 : zB := [(1051, .aload_n 3, 1052, nI 0), (1052, .iconst 0, 1053, nI 0)]
theorem blaw_1051_ok : z_ok code 1051 blaw_1051 1053 = true := by decide +kernel
theorem ilaw_1051 (hr : z_run 7 blaw_1051 ls st = some (ls', st')) (g : z_J Z mlaw R k n Q 1053 ls' st' h) : z_J Z mlaw R k n Q 1051 ls st h := z_jr blaw_1051 blaw_1051_ok hr g
theorem dlaw_1053 : decode code 1053 = .ok (.laload, 1) := by decide +kernel
theorem ilaw_1053 {f : Nat → Int64} (hh : h r = some (a, .inl (2, N, .inr (.inl f)))) (hi : i = nI j) (hj : j < N) (hN : N < 2 ^ 31) (g : z_J Z mlaw R k n Q 1054 ls (.long (f j) :: st) h) : z_J Z mlaw R k n Q 1053 ls (.int i :: .ref a :: st) h := z_lald dlaw_1053 rfl hh hi hj hN g
def blaw_1054 : zB := [(1054, .iload 6, 1056, nI 0), (1056, .i2l, 1057, nI 0)]
theorem blaw_1054_ok : z_ok code 1054 blaw_1054 1057 = true := by decide +kernel
theorem ilaw_1054 (hr : z_run 7 blaw_1054 ls st = some (ls', st')) (g : z_J Z mlaw R k n Q 1057 ls' st' h) : z_J Z mlaw R k n Q 1054 ls st h := z_jr blaw_1054 blaw_1054_ok hr g
theorem dlaw_1057 : decode code 1057 = .ok (.lcmp, 1) := by decide +kernel
theorem ilaw_1057 {xl yl : Int64} (g : z_J Z mlaw R k n Q 1058 ls (.int (lg_cmp xl yl) :: st) h) : z_J Z mlaw R k n Q 1057 ls (.long yl :: .long xl :: st) h := z_lcmp_id dlaw_1057 rfl g
theorem dlaw_1058 : decode code 1058 = .ok (.ifCond .eq 5, 3) := by decide +kernel
theorem ilaw_1058 (kt : x = 0 → z_J Z mlaw R k n Q 1063 ls st h) (kf : ¬ x = 0 → z_J Z mlaw R k n Q 1061 ls st h) : z_J Z mlaw R k n Q 1058 ls (.int x :: st) h := z_if_eq dlaw_1058 (tgt := 1063) (by decide) rfl kt kf
def blaw_1061 : zB := [(1061, .iconst 0, 1062, nI 0)]
theorem blaw_1061_ok : z_ok code 1061 blaw_1061 1062 = true := by decide +kernel
theorem ilaw_1061 (hr : z_run 7 blaw_1061 ls st = some (ls', st')) (g : z_J Z mlaw R k n Q 1062 ls' st' h) : z_J Z mlaw R k n Q 1061 ls st h := z_jr blaw_1061 blaw_1061_ok hr g
theorem dlaw_1062 : decode code 1062 = .ok (.ireturn, 1) := by decide +kernel
theorem ilaw_1062 (hz : narrow .boolean (.int x) = .int x) (hk : k ≤ R.cells) (hs : n ≤ R.slots) (hq : Q (.inl (some (.int x))) h) : z_J Z mlaw R k n Q 1062 ls [.int x] h := z_iret (ty := .boolean) dlaw_1062 rfl hz hk hs hq
def blaw_1063 : zB := [(1063, .goto 399, 1462, nI 0)]
theorem blaw_1063_ok : z_ok code 1063 blaw_1063 1462 = true := by decide +kernel
theorem ilaw_1063 (hr : z_run 7 blaw_1063 ls st = some (ls', st')) (g : z_J Z mlaw R k n Q 1462 ls' st' h) : z_J Z mlaw R k n Q 1063 ls st h := z_jr blaw_1063 blaw_1063_ok hr g
def blaw_1066 : zB := [(1066, .aload_n 1, 1067, nI 0), (1067, .aload_n 0, 1068, nI 0), (1068, .iload 4, 1070, nI 0), (1070, .iconst 1, 1071, nI 1), (1071, .iadd, 1072, nI 0)]
theorem blaw_1066_ok : z_ok code 1066 blaw_1066 1072 = true := by decide +kernel
theorem ilaw_1066 (hr : z_run 7 blaw_1066 ls st = some (ls', st')) (g : z_J Z mlaw R k n Q 1072 ls' st' h) : z_J Z mlaw R k n Q 1066 ls st h := z_jr blaw_1066 blaw_1066_ok hr g
theorem dlaw_1072 : decode code 1072 = .ok (.iaload, 1) := by decide +kernel
theorem ilaw_1072 (hi : i = nI j) (hj : j < Z.2.1) (hN : Z.2.1 < 2 ^ 31) (g : z_J Z mlaw R k n Q 1073 ls (.int (Z.2.2.1 j) :: st) h) : z_J Z mlaw R k n Q 1072 ls (.int i :: .ref Z.1 :: st) h := z_sld dlaw_1072 rfl hi hj hN g
def blaw_1073 : zB := [(1073, .aload_n 0, 1074, nI 0), (1074, .iload 4, 1076, nI 0), (1076, .iconst 2, 1077, nI 2), (1077, .iadd, 1078, nI 0)]
theorem blaw_1073_ok : z_ok code 1073 blaw_1073 1078 = true := by decide +kernel
theorem ilaw_1073 (hr : z_run 7 blaw_1073 ls st = some (ls', st')) (g : z_J Z mlaw R k n Q 1078 ls' st' h) : z_J Z mlaw R k n Q 1073 ls st h := z_jr blaw_1073 blaw_1073_ok hr g
theorem dlaw_1078 : decode code 1078 = .ok (.iaload, 1) := by decide +kernel
theorem ilaw_1078 (hi : i = nI j) (hj : j < Z.2.1) (hN : Z.2.1 < 2 ^ 31) (g : z_J Z mlaw R k n Q 1079 ls (.int (Z.2.2.1 j) :: st) h) : z_J Z mlaw R k n Q 1078 ls (.int i :: .ref Z.1 :: st) h := z_sld dlaw_1078 rfl hi hj hN g
def blaw_1079 : zB := [(1079, .aload_n 3, 1080, nI 0)]
theorem blaw_1079_ok : z_ok code 1079 blaw_1079 1080 = true := by decide +kernel
theorem ilaw_1079 (hr : z_run 7 blaw_1079 ls st = some (ls', st')) (g : z_J Z mlaw R k n Q 1080 ls' st' h) : z_J Z mlaw R k n Q 1079 ls st h := z_jr blaw_1079 blaw_1079_ok hr g
theorem dlaw_1080 : decode code 1080 = .ok (.invokestatic 135, 3) := by decide +kernel
theorem ilaw_1080 (ha : z_args 4 st [] = some (As, rest)) (hc : z_chk rest As 5 = true) (hR : z_rm R R' 5 k n) (gc : z_J Z mL_demand R' 0 0 Q' 0 As [] h) (kr : ∀ (v : Option Value) (h' : zH), Q' (.inl v) h' → z_J Z mlaw R (k + R'.cells) (n + R'.slots) Q 1083 ls (v.toList ++ rest) h') (kx : ∀ (E : String) (h' : zH), Q' (.inr E) h' → z_JX Z mlaw R (k + R'.cells) (n + R'.slots) Q 1080 ls E h') : z_J Z mlaw R k n Q 1080 ls st h := z_callS (M' := mL_demand) dlaw_1080 rfl cs_L_135 gw603 ha hR (z_chk1 hc) (z_chk2 hc) (z_chk3 hc) gc kr kx
def blaw_1083 : zB := [(1083, .istore 5, 1085, nI 0), (1085, .aload_n 2, 1086, nI 0), (1086, .aload_n 0, 1087, nI 0), (1087, .iload 4, 1089, nI 0), (1089, .iconst 1, 1090, nI 1), (1090, .iadd, 1091, nI 0)]
theorem blaw_1083_ok : z_ok code 1083 blaw_1083 1091 = true := by decide +kernel
theorem ilaw_1083 (hr : z_run 7 blaw_1083 ls st = some (ls', st')) (g : z_J Z mlaw R k n Q 1091 ls' st' h) : z_J Z mlaw R k n Q 1083 ls st h := z_jr blaw_1083 blaw_1083_ok hr g
theorem dlaw_1091 : decode code 1091 = .ok (.iaload, 1) := by decide +kernel
theorem ilaw_1091 (hi : i = nI j) (hj : j < Z.2.1) (hN : Z.2.1 < 2 ^ 31) (g : z_J Z mlaw R k n Q 1092 ls (.int (Z.2.2.1 j) :: st) h) : z_J Z mlaw R k n Q 1091 ls (.int i :: .ref Z.1 :: st) h := z_sld dlaw_1091 rfl hi hj hN g
def blaw_1092 : zB := [(1092, .aload_n 0, 1093, nI 0), (1093, .iload 4, 1095, nI 0), (1095, .iconst 2, 1096, nI 2), (1096, .iadd, 1097, nI 0)]
theorem blaw_1092_ok : z_ok code 1092 blaw_1092 1097 = true := by decide +kernel
theorem ilaw_1092 (hr : z_run 7 blaw_1092 ls st = some (ls', st')) (g : z_J Z mlaw R k n Q 1097 ls' st' h) : z_J Z mlaw R k n Q 1092 ls st h := z_jr blaw_1092 blaw_1092_ok hr g
theorem dlaw_1097 : decode code 1097 = .ok (.iaload, 1) := by decide +kernel
theorem ilaw_1097 (hi : i = nI j) (hj : j < Z.2.1) (hN : Z.2.1 < 2 ^ 31) (g : z_J Z mlaw R k n Q 1098 ls (.int (Z.2.2.1 j) :: st) h) : z_J Z mlaw R k n Q 1097 ls (.int i :: .ref Z.1 :: st) h := z_sld dlaw_1097 rfl hi hj hN g
theorem dlaw_1098 : decode code 1098 = .ok (.invokevirtual 137, 3) := by decide +kernel
theorem ilaw_1098 (ha : z_args 2 st [] = some (As, .ref b :: rest)) (hc : z_chk rest (.ref b :: As) 3 = true) (hh : h r = some (b, .inr (7, fs))) (hR : z_rm R R' 3 k n) (gc : z_J Z mX6_demand R' 0 0 Q' 0 (.ref b :: As) [] h) (kr : ∀ (v : Option Value) (h' : zH), Q' (.inl v) h' → z_J Z mlaw R (k + R'.cells) (n + R'.slots) Q 1101 ls (v.toList ++ rest) h') (kx : ∀ (E : String) (h' : zH), Q' (.inr E) h' → z_JX Z mlaw R (k + R'.cells) (n + R'.slots) Q 1098 ls E h') : z_J Z mlaw R k n Q 1098 ls st h := z_callV (M' := mX6_demand) dlaw_1098 rfl cs_L_137 rfl gw897 gw898 ha hh (ci := 7) rfl hR (z_chk1 hc) (z_chk2 hc) (z_chk3 hc) gc kr kx
def blaw_1101 : zB := [(1101, .istore 6, 1103, nI 0), (1103, .aload_n 2, 1104, nI 0)]
theorem blaw_1101_ok : z_ok code 1101 blaw_1101 1104 = true := by decide +kernel
theorem ilaw_1101 (hr : z_run 7 blaw_1101 ls st = some (ls', st')) (g : z_J Z mlaw R k n Q 1104 ls' st' h) : z_J Z mlaw R k n Q 1101 ls st h := z_jr blaw_1101 blaw_1101_ok hr g
theorem dlaw_1104 : decode code 1104 = .ok (.invokevirtual 85, 3) := by decide +kernel
theorem ilaw_1104 (ha : z_args 0 st [] = some (As, .ref b :: rest)) (hc : z_chk rest (.ref b :: As) 1 = true) (hh : h r = some (b, .inr (7, fs))) (hR : z_rm R R' 1 k n) (gc : z_J Z mX6_thrown R' 0 0 Q' 0 (.ref b :: As) [] h) (kr : ∀ (v : Option Value) (h' : zH), Q' (.inl v) h' → z_J Z mlaw R (k + R'.cells) (n + R'.slots) Q 1107 ls (v.toList ++ rest) h') (kx : ∀ (E : String) (h' : zH), Q' (.inr E) h' → z_JX Z mlaw R (k + R'.cells) (n + R'.slots) Q 1104 ls E h') : z_J Z mlaw R k n Q 1104 ls st h := z_callV (M' := mX6_thrown) dlaw_1104 rfl cs_L_85 rfl gw793 gw794 ha hh (ci := 7) rfl hR (z_chk1 hc) (z_chk2 hc) (z_chk3 hc) gc kr kx
def blaw_1107 : zB := [(1107, .iload 5, 1109, nI 0)]
theorem blaw_1107_ok : z_ok code 1107 blaw_1107 1109 = true := by decide +kernel
theorem ilaw_1107 (hr : z_run 7 blaw_1107 ls st = some (ls', st')) (g : z_J Z mlaw R k n Q 1109 ls' st' h) : z_J Z mlaw R k n Q 1107 ls st h := z_jr blaw_1107 blaw_1107_ok hr g
theorem dlaw_1109 : decode code 1109 = .ok (.if_icmp .eq 5, 3) := by decide +kernel
theorem ilaw_1109 (kt : x = y → z_J Z mlaw R k n Q 1114 ls st h) (kf : ¬ x = y → z_J Z mlaw R k n Q 1112 ls st h) : z_J Z mlaw R k n Q 1109 ls (.int y :: .int x :: st) h := z_ic_eq dlaw_1109 (tgt := 1114) (by decide) rfl kt kf
def blaw_1112 : zB := [(1112, .iconst 0, 1113, nI 0)]
theorem blaw_1112_ok : z_ok code 1112 blaw_1112 1113 = true := by decide +kernel
theorem ilaw_1112 (hr : z_run 7 blaw_1112 ls st = some (ls', st')) (g : z_J Z mlaw R k n Q 1113 ls' st' h) : z_J Z mlaw R k n Q 1112 ls st h := z_jr blaw_1112 blaw_1112_ok hr g
theorem dlaw_1113 : decode code 1113 = .ok (.ireturn, 1) := by decide +kernel
theorem ilaw_1113 (hz : narrow .boolean (.int x) = .int x) (hk : k ≤ R.cells) (hs : n ≤ R.slots) (hq : Q (.inl (some (.int x))) h) : z_J Z mlaw R k n Q 1113 ls [.int x] h := z_iret (ty := .boolean) dlaw_1113 rfl hz hk hs hq
def blaw_1114 : zB := [(1114, .iload 5, 1116, nI 0)]
theorem blaw_1114_ok : z_ok code 1114 blaw_1114 1116 = true := by decide +kernel
theorem ilaw_1114 (hr : z_run 7 blaw_1114 ls st = some (ls', st')) (g : z_J Z mlaw R k n Q 1116 ls' st' h) : z_J Z mlaw R k n Q 1114 ls st h := z_jr blaw_1114 blaw_1114_ok hr g
theorem dlaw_1116 : decode code 1116 = .ok (.ifCond .ne 15, 3) := by decide +kernel
theorem ilaw_1116 (kt : ¬ x = 0 → z_J Z mlaw R k n Q 1131 ls st h) (kf : x = 0 → z_J Z mlaw R k n Q 1119 ls st h) : z_J Z mlaw R k n Q 1116 ls (.int x :: st) h := z_if_ne dlaw_1116 (tgt := 1131) (by decide) rfl kt kf
def blaw_1119 : zB := [(1119, .aload_n 3, 1120, nI 0), (1120, .iconst 0, 1121, nI 0)]
theorem blaw_1119_ok : z_ok code 1119 blaw_1119 1121 = true := by decide +kernel
theorem ilaw_1119 (hr : z_run 7 blaw_1119 ls st = some (ls', st')) (g : z_J Z mlaw R k n Q 1121 ls' st' h) : z_J Z mlaw R k n Q 1119 ls st h := z_jr blaw_1119 blaw_1119_ok hr g
theorem dlaw_1121 : decode code 1121 = .ok (.laload, 1) := by decide +kernel
theorem ilaw_1121 {f : Nat → Int64} (hh : h r = some (a, .inl (2, N, .inr (.inl f)))) (hi : i = nI j) (hj : j < N) (hN : N < 2 ^ 31) (g : z_J Z mlaw R k n Q 1122 ls (.long (f j) :: st) h) : z_J Z mlaw R k n Q 1121 ls (.int i :: .ref a :: st) h := z_lald dlaw_1121 rfl hh hi hj hN g
def blaw_1122 : zB := [(1122, .iload 6, 1124, nI 0), (1124, .i2l, 1125, nI 0)]
theorem blaw_1122_ok : z_ok code 1122 blaw_1122 1125 = true := by decide +kernel
theorem ilaw_1122 (hr : z_run 7 blaw_1122 ls st = some (ls', st')) (g : z_J Z mlaw R k n Q 1125 ls' st' h) : z_J Z mlaw R k n Q 1122 ls st h := z_jr blaw_1122 blaw_1122_ok hr g
theorem dlaw_1125 : decode code 1125 = .ok (.lcmp, 1) := by decide +kernel
theorem ilaw_1125 {xl yl : Int64} (g : z_J Z mlaw R k n Q 1126 ls (.int (lg_cmp xl yl) :: st) h) : z_J Z mlaw R k n Q 1125 ls (.long yl :: .long xl :: st) h := z_lcmp_id dlaw_1125 rfl g
theorem dlaw_1126 : decode code 1126 = .ok (.ifCond .eq 5, 3) := by decide +kernel
theorem ilaw_1126 (kt : x = 0 → z_J Z mlaw R k n Q 1131 ls st h) (kf : ¬ x = 0 → z_J Z mlaw R k n Q 1129 ls st h) : z_J Z mlaw R k n Q 1126 ls (.int x :: st) h := z_if_eq dlaw_1126 (tgt := 1131) (by decide) rfl kt kf
def blaw_1129 : zB := [(1129, .iconst 0, 1130, nI 0)]
theorem blaw_1129_ok : z_ok code 1129 blaw_1129 1130 = true := by decide +kernel
theorem ilaw_1129 (hr : z_run 7 blaw_1129 ls st = some (ls', st')) (g : z_J Z mlaw R k n Q 1130 ls' st' h) : z_J Z mlaw R k n Q 1129 ls st h := z_jr blaw_1129 blaw_1129_ok hr g
theorem dlaw_1130 : decode code 1130 = .ok (.ireturn, 1) := by decide +kernel
theorem ilaw_1130 (hz : narrow .boolean (.int x) = .int x) (hk : k ≤ R.cells) (hs : n ≤ R.slots) (hq : Q (.inl (some (.int x))) h) : z_J Z mlaw R k n Q 1130 ls [.int x] h := z_iret (ty := .boolean) dlaw_1130 rfl hz hk hs hq
def blaw_1131 : zB := [(1131, .goto 331, 1462, nI 0)]
theorem blaw_1131_ok : z_ok code 1131 blaw_1131 1462 = true := by decide +kernel
theorem ilaw_1131 (hr : z_run 7 blaw_1131 ls st = some (ls', st')) (g : z_J Z mlaw R k n Q 1462 ls' st' h) : z_J Z mlaw R k n Q 1131 ls st h := z_jr blaw_1131 blaw_1131_ok hr g
def blaw_1134 : zB := [(1134, .aload_n 1, 1135, nI 0), (1135, .aload_n 0, 1136, nI 0), (1136, .iload 4, 1138, nI 0), (1138, .iconst 1, 1139, nI 1), (1139, .iadd, 1140, nI 0)]
theorem blaw_1134_ok : z_ok code 1134 blaw_1134 1140 = true := by decide +kernel
theorem ilaw_1134 (hr : z_run 7 blaw_1134 ls st = some (ls', st')) (g : z_J Z mlaw R k n Q 1140 ls' st' h) : z_J Z mlaw R k n Q 1134 ls st h := z_jr blaw_1134 blaw_1134_ok hr g
theorem dlaw_1140 : decode code 1140 = .ok (.iaload, 1) := by decide +kernel
theorem ilaw_1140 (hi : i = nI j) (hj : j < Z.2.1) (hN : Z.2.1 < 2 ^ 31) (g : z_J Z mlaw R k n Q 1141 ls (.int (Z.2.2.1 j) :: st) h) : z_J Z mlaw R k n Q 1140 ls (.int i :: .ref Z.1 :: st) h := z_sld dlaw_1140 rfl hi hj hN g
def blaw_1141 : zB := [(1141, .aload_n 0, 1142, nI 0), (1142, .iload 4, 1144, nI 0), (1144, .iconst 2, 1145, nI 2), (1145, .iadd, 1146, nI 0)]
theorem blaw_1141_ok : z_ok code 1141 blaw_1141 1146 = true := by decide +kernel
theorem ilaw_1141 (hr : z_run 7 blaw_1141 ls st = some (ls', st')) (g : z_J Z mlaw R k n Q 1146 ls' st' h) : z_J Z mlaw R k n Q 1141 ls st h := z_jr blaw_1141 blaw_1141_ok hr g
theorem dlaw_1146 : decode code 1146 = .ok (.iaload, 1) := by decide +kernel
theorem ilaw_1146 (hi : i = nI j) (hj : j < Z.2.1) (hN : Z.2.1 < 2 ^ 31) (g : z_J Z mlaw R k n Q 1147 ls (.int (Z.2.2.1 j) :: st) h) : z_J Z mlaw R k n Q 1146 ls (.int i :: .ref Z.1 :: st) h := z_sld dlaw_1146 rfl hi hj hN g
def blaw_1147 : zB := [(1147, .aload_n 3, 1148, nI 0)]
theorem blaw_1147_ok : z_ok code 1147 blaw_1147 1148 = true := by decide +kernel
theorem ilaw_1147 (hr : z_run 7 blaw_1147 ls st = some (ls', st')) (g : z_J Z mlaw R k n Q 1148 ls' st' h) : z_J Z mlaw R k n Q 1147 ls st h := z_jr blaw_1147 blaw_1147_ok hr g
theorem dlaw_1148 : decode code 1148 = .ok (.invokestatic 138, 3) := by decide +kernel
theorem ilaw_1148 (ha : z_args 4 st [] = some (As, rest)) (hc : z_chk rest As 5 = true) (hR : z_rm R R' 5 k n) (gc : z_J Z mL_gets R' 0 0 Q' 0 As [] h) (kr : ∀ (v : Option Value) (h' : zH), Q' (.inl v) h' → z_J Z mlaw R (k + R'.cells) (n + R'.slots) Q 1151 ls (v.toList ++ rest) h') (kx : ∀ (E : String) (h' : zH), Q' (.inr E) h' → z_JX Z mlaw R (k + R'.cells) (n + R'.slots) Q 1148 ls E h') : z_J Z mlaw R k n Q 1148 ls st h := z_callS (M' := mL_gets) dlaw_1148 rfl cs_L_138 gw610 ha hR (z_chk1 hc) (z_chk2 hc) (z_chk3 hc) gc kr kx
def blaw_1151 : zB := [(1151, .istore 5, 1153, nI 0), (1153, .aload_n 2, 1154, nI 0), (1154, .aload_n 0, 1155, nI 0), (1155, .iload 4, 1157, nI 0), (1157, .iconst 1, 1158, nI 1), (1158, .iadd, 1159, nI 0)]
theorem blaw_1151_ok : z_ok code 1151 blaw_1151 1159 = true := by decide +kernel
theorem ilaw_1151 (hr : z_run 7 blaw_1151 ls st = some (ls', st')) (g : z_J Z mlaw R k n Q 1159 ls' st' h) : z_J Z mlaw R k n Q 1151 ls st h := z_jr blaw_1151 blaw_1151_ok hr g
theorem dlaw_1159 : decode code 1159 = .ok (.iaload, 1) := by decide +kernel
theorem ilaw_1159 (hi : i = nI j) (hj : j < Z.2.1) (hN : Z.2.1 < 2 ^ 31) (g : z_J Z mlaw R k n Q 1160 ls (.int (Z.2.2.1 j) :: st) h) : z_J Z mlaw R k n Q 1159 ls (.int i :: .ref Z.1 :: st) h := z_sld dlaw_1159 rfl hi hj hN g
def blaw_1160 : zB := [(1160, .aload_n 0, 1161, nI 0), (1161, .iload 4, 1163, nI 0), (1163, .iconst 2, 1164, nI 2), (1164, .iadd, 1165, nI 0)]
theorem blaw_1160_ok : z_ok code 1160 blaw_1160 1165 = true := by decide +kernel
theorem ilaw_1160 (hr : z_run 7 blaw_1160 ls st = some (ls', st')) (g : z_J Z mlaw R k n Q 1165 ls' st' h) : z_J Z mlaw R k n Q 1160 ls st h := z_jr blaw_1160 blaw_1160_ok hr g
theorem dlaw_1165 : decode code 1165 = .ok (.iaload, 1) := by decide +kernel
theorem ilaw_1165 (hi : i = nI j) (hj : j < Z.2.1) (hN : Z.2.1 < 2 ^ 31) (g : z_J Z mlaw R k n Q 1166 ls (.int (Z.2.2.1 j) :: st) h) : z_J Z mlaw R k n Q 1165 ls (.int i :: .ref Z.1 :: st) h := z_sld dlaw_1165 rfl hi hj hN g
theorem dlaw_1166 : decode code 1166 = .ok (.invokevirtual 140, 3) := by decide +kernel
theorem ilaw_1166 (ha : z_args 2 st [] = some (As, .ref b :: rest)) (hc : z_chk rest (.ref b :: As) 3 = true) (hh : h r = some (b, .inr (7, fs))) (hR : z_rm R R' 3 k n) (gc : z_J Z mX6_gets R' 0 0 Q' 0 (.ref b :: As) [] h) (kr : ∀ (v : Option Value) (h' : zH), Q' (.inl v) h' → z_J Z mlaw R (k + R'.cells) (n + R'.slots) Q 1169 ls (v.toList ++ rest) h') (kx : ∀ (E : String) (h' : zH), Q' (.inr E) h' → z_JX Z mlaw R (k + R'.cells) (n + R'.slots) Q 1166 ls E h') : z_J Z mlaw R k n Q 1166 ls st h := z_callV (M' := mX6_gets) dlaw_1166 rfl cs_L_140 rfl gw901 gw902 ha hh (ci := 7) rfl hR (z_chk1 hc) (z_chk2 hc) (z_chk3 hc) gc kr kx
def blaw_1169 : zB := [(1169, .istore 6, 1171, nI 0), (1171, .aload_n 2, 1172, nI 0)]
theorem blaw_1169_ok : z_ok code 1169 blaw_1169 1172 = true := by decide +kernel
theorem ilaw_1169 (hr : z_run 7 blaw_1169 ls st = some (ls', st')) (g : z_J Z mlaw R k n Q 1172 ls' st' h) : z_J Z mlaw R k n Q 1169 ls st h := z_jr blaw_1169 blaw_1169_ok hr g
theorem dlaw_1172 : decode code 1172 = .ok (.invokevirtual 85, 3) := by decide +kernel
theorem ilaw_1172 (ha : z_args 0 st [] = some (As, .ref b :: rest)) (hc : z_chk rest (.ref b :: As) 1 = true) (hh : h r = some (b, .inr (7, fs))) (hR : z_rm R R' 1 k n) (gc : z_J Z mX6_thrown R' 0 0 Q' 0 (.ref b :: As) [] h) (kr : ∀ (v : Option Value) (h' : zH), Q' (.inl v) h' → z_J Z mlaw R (k + R'.cells) (n + R'.slots) Q 1175 ls (v.toList ++ rest) h') (kx : ∀ (E : String) (h' : zH), Q' (.inr E) h' → z_JX Z mlaw R (k + R'.cells) (n + R'.slots) Q 1172 ls E h') : z_J Z mlaw R k n Q 1172 ls st h := z_callV (M' := mX6_thrown) dlaw_1172 rfl cs_L_85 rfl gw793 gw794 ha hh (ci := 7) rfl hR (z_chk1 hc) (z_chk2 hc) (z_chk3 hc) gc kr kx
def blaw_1175 : zB := [(1175, .iload 5, 1177, nI 0)]
theorem blaw_1175_ok : z_ok code 1175 blaw_1175 1177 = true := by decide +kernel
theorem ilaw_1175 (hr : z_run 7 blaw_1175 ls st = some (ls', st')) (g : z_J Z mlaw R k n Q 1177 ls' st' h) : z_J Z mlaw R k n Q 1175 ls st h := z_jr blaw_1175 blaw_1175_ok hr g
theorem dlaw_1177 : decode code 1177 = .ok (.if_icmp .eq 5, 3) := by decide +kernel
theorem ilaw_1177 (kt : x = y → z_J Z mlaw R k n Q 1182 ls st h) (kf : ¬ x = y → z_J Z mlaw R k n Q 1180 ls st h) : z_J Z mlaw R k n Q 1177 ls (.int y :: .int x :: st) h := z_ic_eq dlaw_1177 (tgt := 1182) (by decide) rfl kt kf
def blaw_1180 : zB := [(1180, .iconst 0, 1181, nI 0)]
theorem blaw_1180_ok : z_ok code 1180 blaw_1180 1181 = true := by decide +kernel
theorem ilaw_1180 (hr : z_run 7 blaw_1180 ls st = some (ls', st')) (g : z_J Z mlaw R k n Q 1181 ls' st' h) : z_J Z mlaw R k n Q 1180 ls st h := z_jr blaw_1180 blaw_1180_ok hr g
theorem dlaw_1181 : decode code 1181 = .ok (.ireturn, 1) := by decide +kernel
theorem ilaw_1181 (hz : narrow .boolean (.int x) = .int x) (hk : k ≤ R.cells) (hs : n ≤ R.slots) (hq : Q (.inl (some (.int x))) h) : z_J Z mlaw R k n Q 1181 ls [.int x] h := z_iret (ty := .boolean) dlaw_1181 rfl hz hk hs hq
def blaw_1182 : zB := [(1182, .iload 5, 1184, nI 0)]
theorem blaw_1182_ok : z_ok code 1182 blaw_1182 1184 = true := by decide +kernel
theorem ilaw_1182 (hr : z_run 7 blaw_1182 ls st = some (ls', st')) (g : z_J Z mlaw R k n Q 1184 ls' st' h) : z_J Z mlaw R k n Q 1182 ls st h := z_jr blaw_1182 blaw_1182_ok hr g
theorem dlaw_1184 : decode code 1184 = .ok (.ifCond .ne 15, 3) := by decide +kernel
theorem ilaw_1184 (kt : ¬ x = 0 → z_J Z mlaw R k n Q 1199 ls st h) (kf : x = 0 → z_J Z mlaw R k n Q 1187 ls st h) : z_J Z mlaw R k n Q 1184 ls (.int x :: st) h := z_if_ne dlaw_1184 (tgt := 1199) (by decide) rfl kt kf
def blaw_1187 : zB := [(1187, .aload_n 3, 1188, nI 0), (1188, .iconst 0, 1189, nI 0)]
theorem blaw_1187_ok : z_ok code 1187 blaw_1187 1189 = true := by decide +kernel
theorem ilaw_1187 (hr : z_run 7 blaw_1187 ls st = some (ls', st')) (g : z_J Z mlaw R k n Q 1189 ls' st' h) : z_J Z mlaw R k n Q 1187 ls st h := z_jr blaw_1187 blaw_1187_ok hr g
theorem dlaw_1189 : decode code 1189 = .ok (.laload, 1) := by decide +kernel
theorem ilaw_1189 {f : Nat → Int64} (hh : h r = some (a, .inl (2, N, .inr (.inl f)))) (hi : i = nI j) (hj : j < N) (hN : N < 2 ^ 31) (g : z_J Z mlaw R k n Q 1190 ls (.long (f j) :: st) h) : z_J Z mlaw R k n Q 1189 ls (.int i :: .ref a :: st) h := z_lald dlaw_1189 rfl hh hi hj hN g
def blaw_1190 : zB := [(1190, .iload 6, 1192, nI 0), (1192, .i2l, 1193, nI 0)]
theorem blaw_1190_ok : z_ok code 1190 blaw_1190 1193 = true := by decide +kernel
theorem ilaw_1190 (hr : z_run 7 blaw_1190 ls st = some (ls', st')) (g : z_J Z mlaw R k n Q 1193 ls' st' h) : z_J Z mlaw R k n Q 1190 ls st h := z_jr blaw_1190 blaw_1190_ok hr g
theorem dlaw_1193 : decode code 1193 = .ok (.lcmp, 1) := by decide +kernel
theorem ilaw_1193 {xl yl : Int64} (g : z_J Z mlaw R k n Q 1194 ls (.int (lg_cmp xl yl) :: st) h) : z_J Z mlaw R k n Q 1193 ls (.long yl :: .long xl :: st) h := z_lcmp_id dlaw_1193 rfl g
theorem dlaw_1194 : decode code 1194 = .ok (.ifCond .eq 5, 3) := by decide +kernel
theorem ilaw_1194 (kt : x = 0 → z_J Z mlaw R k n Q 1199 ls st h) (kf : ¬ x = 0 → z_J Z mlaw R k n Q 1197 ls st h) : z_J Z mlaw R k n Q 1194 ls (.int x :: st) h := z_if_eq dlaw_1194 (tgt := 1199) (by decide) rfl kt kf
def blaw_1197 : zB := [(1197, .iconst 0, 1198, nI 0)]
theorem blaw_1197_ok : z_ok code 1197 blaw_1197 1198 = true := by decide +kernel
theorem ilaw_1197 (hr : z_run 7 blaw_1197 ls st = some (ls', st')) (g : z_J Z mlaw R k n Q 1198 ls' st' h) : z_J Z mlaw R k n Q 1197 ls st h := z_jr blaw_1197 blaw_1197_ok hr g
theorem dlaw_1198 : decode code 1198 = .ok (.ireturn, 1) := by decide +kernel
theorem ilaw_1198 (hz : narrow .boolean (.int x) = .int x) (hk : k ≤ R.cells) (hs : n ≤ R.slots) (hq : Q (.inl (some (.int x))) h) : z_J Z mlaw R k n Q 1198 ls [.int x] h := z_iret (ty := .boolean) dlaw_1198 rfl hz hk hs hq
def blaw_1199 : zB := [(1199, .goto 263, 1462, nI 0)]
theorem blaw_1199_ok : z_ok code 1199 blaw_1199 1462 = true := by decide +kernel
theorem ilaw_1199 (hr : z_run 7 blaw_1199 ls st = some (ls', st')) (g : z_J Z mlaw R k n Q 1462 ls' st' h) : z_J Z mlaw R k n Q 1199 ls st h := z_jr blaw_1199 blaw_1199_ok hr g
def blaw_1202 : zB := [(1202, .aload_n 1, 1203, nI 0), (1203, .aload_n 0, 1204, nI 0), (1204, .iload 4, 1206, nI 0), (1206, .iconst 1, 1207, nI 1), (1207, .iadd, 1208, nI 0)]
theorem blaw_1202_ok : z_ok code 1202 blaw_1202 1208 = true := by decide +kernel
theorem ilaw_1202 (hr : z_run 7 blaw_1202 ls st = some (ls', st')) (g : z_J Z mlaw R k n Q 1208 ls' st' h) : z_J Z mlaw R k n Q 1202 ls st h := z_jr blaw_1202 blaw_1202_ok hr g
theorem dlaw_1208 : decode code 1208 = .ok (.iaload, 1) := by decide +kernel
theorem ilaw_1208 (hi : i = nI j) (hj : j < Z.2.1) (hN : Z.2.1 < 2 ^ 31) (g : z_J Z mlaw R k n Q 1209 ls (.int (Z.2.2.1 j) :: st) h) : z_J Z mlaw R k n Q 1208 ls (.int i :: .ref Z.1 :: st) h := z_sld dlaw_1208 rfl hi hj hN g
def blaw_1209 : zB := [(1209, .aload_n 3, 1210, nI 0)]
theorem blaw_1209_ok : z_ok code 1209 blaw_1209 1210 = true := by decide +kernel
theorem ilaw_1209 (hr : z_run 7 blaw_1209 ls st = some (ls', st')) (g : z_J Z mlaw R k n Q 1210 ls' st' h) : z_J Z mlaw R k n Q 1209 ls st h := z_jr blaw_1209 blaw_1209_ok hr g
theorem dlaw_1210 : decode code 1210 = .ok (.invokestatic 141, 3) := by decide +kernel
theorem ilaw_1210 (ha : z_args 3 st [] = some (As, rest)) (hc : z_chk rest As 4 = true) (hR : z_rm R R' 4 k n) (gc : z_J Z mL_lack R' 0 0 Q' 0 As [] h) (kr : ∀ (v : Option Value) (h' : zH), Q' (.inl v) h' → z_J Z mlaw R (k + R'.cells) (n + R'.slots) Q 1213 ls (v.toList ++ rest) h') (kx : ∀ (E : String) (h' : zH), Q' (.inr E) h' → z_JX Z mlaw R (k + R'.cells) (n + R'.slots) Q 1210 ls E h') : z_J Z mlaw R k n Q 1210 ls st h := z_callS (M' := mL_lack) dlaw_1210 rfl cs_L_141 gw666 ha hR (z_chk1 hc) (z_chk2 hc) (z_chk3 hc) gc kr kx
def blaw_1213 : zB := [(1213, .istore 5, 1215, nI 0), (1215, .aload_n 2, 1216, nI 0), (1216, .aload_n 0, 1217, nI 0), (1217, .iload 4, 1219, nI 0), (1219, .iconst 1, 1220, nI 1), (1220, .iadd, 1221, nI 0)]
theorem blaw_1213_ok : z_ok code 1213 blaw_1213 1221 = true := by decide +kernel
theorem ilaw_1213 (hr : z_run 7 blaw_1213 ls st = some (ls', st')) (g : z_J Z mlaw R k n Q 1221 ls' st' h) : z_J Z mlaw R k n Q 1213 ls st h := z_jr blaw_1213 blaw_1213_ok hr g
theorem dlaw_1221 : decode code 1221 = .ok (.iaload, 1) := by decide +kernel
theorem ilaw_1221 (hi : i = nI j) (hj : j < Z.2.1) (hN : Z.2.1 < 2 ^ 31) (g : z_J Z mlaw R k n Q 1222 ls (.int (Z.2.2.1 j) :: st) h) : z_J Z mlaw R k n Q 1221 ls (.int i :: .ref Z.1 :: st) h := z_sld dlaw_1221 rfl hi hj hN g
theorem dlaw_1222 : decode code 1222 = .ok (.invokevirtual 143, 3) := by decide +kernel
theorem ilaw_1222 (ha : z_args 1 st [] = some (As, .ref b :: rest)) (hc : z_chk rest (.ref b :: As) 2 = true) (hh : h r = some (b, .inr (7, fs))) (hR : z_rm R R' 2 k n) (gc : z_J Z mX6_lack R' 0 0 Q' 0 (.ref b :: As) [] h) (kr : ∀ (v : Option Value) (h' : zH), Q' (.inl v) h' → z_J Z mlaw R (k + R'.cells) (n + R'.slots) Q 1225 ls (v.toList ++ rest) h') (kx : ∀ (E : String) (h' : zH), Q' (.inr E) h' → z_JX Z mlaw R (k + R'.cells) (n + R'.slots) Q 1222 ls E h') : z_J Z mlaw R k n Q 1222 ls st h := z_callV (M' := mX6_lack) dlaw_1222 rfl cs_L_143 rfl gw925 gw926 ha hh (ci := 7) rfl hR (z_chk1 hc) (z_chk2 hc) (z_chk3 hc) gc kr kx
def blaw_1225 : zB := [(1225, .istore 6, 1227, nI 0), (1227, .aload_n 2, 1228, nI 0)]
theorem blaw_1225_ok : z_ok code 1225 blaw_1225 1228 = true := by decide +kernel
theorem ilaw_1225 (hr : z_run 7 blaw_1225 ls st = some (ls', st')) (g : z_J Z mlaw R k n Q 1228 ls' st' h) : z_J Z mlaw R k n Q 1225 ls st h := z_jr blaw_1225 blaw_1225_ok hr g
theorem dlaw_1228 : decode code 1228 = .ok (.invokevirtual 85, 3) := by decide +kernel
theorem ilaw_1228 (ha : z_args 0 st [] = some (As, .ref b :: rest)) (hc : z_chk rest (.ref b :: As) 1 = true) (hh : h r = some (b, .inr (7, fs))) (hR : z_rm R R' 1 k n) (gc : z_J Z mX6_thrown R' 0 0 Q' 0 (.ref b :: As) [] h) (kr : ∀ (v : Option Value) (h' : zH), Q' (.inl v) h' → z_J Z mlaw R (k + R'.cells) (n + R'.slots) Q 1231 ls (v.toList ++ rest) h') (kx : ∀ (E : String) (h' : zH), Q' (.inr E) h' → z_JX Z mlaw R (k + R'.cells) (n + R'.slots) Q 1228 ls E h') : z_J Z mlaw R k n Q 1228 ls st h := z_callV (M' := mX6_thrown) dlaw_1228 rfl cs_L_85 rfl gw793 gw794 ha hh (ci := 7) rfl hR (z_chk1 hc) (z_chk2 hc) (z_chk3 hc) gc kr kx
def blaw_1231 : zB := [(1231, .iload 5, 1233, nI 0)]
theorem blaw_1231_ok : z_ok code 1231 blaw_1231 1233 = true := by decide +kernel
theorem ilaw_1231 (hr : z_run 7 blaw_1231 ls st = some (ls', st')) (g : z_J Z mlaw R k n Q 1233 ls' st' h) : z_J Z mlaw R k n Q 1231 ls st h := z_jr blaw_1231 blaw_1231_ok hr g
theorem dlaw_1233 : decode code 1233 = .ok (.if_icmp .eq 5, 3) := by decide +kernel
theorem ilaw_1233 (kt : x = y → z_J Z mlaw R k n Q 1238 ls st h) (kf : ¬ x = y → z_J Z mlaw R k n Q 1236 ls st h) : z_J Z mlaw R k n Q 1233 ls (.int y :: .int x :: st) h := z_ic_eq dlaw_1233 (tgt := 1238) (by decide) rfl kt kf
def blaw_1236 : zB := [(1236, .iconst 0, 1237, nI 0)]
theorem blaw_1236_ok : z_ok code 1236 blaw_1236 1237 = true := by decide +kernel
theorem ilaw_1236 (hr : z_run 7 blaw_1236 ls st = some (ls', st')) (g : z_J Z mlaw R k n Q 1237 ls' st' h) : z_J Z mlaw R k n Q 1236 ls st h := z_jr blaw_1236 blaw_1236_ok hr g
theorem dlaw_1237 : decode code 1237 = .ok (.ireturn, 1) := by decide +kernel
theorem ilaw_1237 (hz : narrow .boolean (.int x) = .int x) (hk : k ≤ R.cells) (hs : n ≤ R.slots) (hq : Q (.inl (some (.int x))) h) : z_J Z mlaw R k n Q 1237 ls [.int x] h := z_iret (ty := .boolean) dlaw_1237 rfl hz hk hs hq
def blaw_1238 : zB := [(1238, .iload 5, 1240, nI 0)]
theorem blaw_1238_ok : z_ok code 1238 blaw_1238 1240 = true := by decide +kernel
theorem ilaw_1238 (hr : z_run 7 blaw_1238 ls st = some (ls', st')) (g : z_J Z mlaw R k n Q 1240 ls' st' h) : z_J Z mlaw R k n Q 1238 ls st h := z_jr blaw_1238 blaw_1238_ok hr g
theorem dlaw_1240 : decode code 1240 = .ok (.ifCond .ne 15, 3) := by decide +kernel
theorem ilaw_1240 (kt : ¬ x = 0 → z_J Z mlaw R k n Q 1255 ls st h) (kf : x = 0 → z_J Z mlaw R k n Q 1243 ls st h) : z_J Z mlaw R k n Q 1240 ls (.int x :: st) h := z_if_ne dlaw_1240 (tgt := 1255) (by decide) rfl kt kf
def blaw_1243 : zB := [(1243, .aload_n 3, 1244, nI 0), (1244, .iconst 0, 1245, nI 0)]
theorem blaw_1243_ok : z_ok code 1243 blaw_1243 1245 = true := by decide +kernel
theorem ilaw_1243 (hr : z_run 7 blaw_1243 ls st = some (ls', st')) (g : z_J Z mlaw R k n Q 1245 ls' st' h) : z_J Z mlaw R k n Q 1243 ls st h := z_jr blaw_1243 blaw_1243_ok hr g
theorem dlaw_1245 : decode code 1245 = .ok (.laload, 1) := by decide +kernel
theorem ilaw_1245 {f : Nat → Int64} (hh : h r = some (a, .inl (2, N, .inr (.inl f)))) (hi : i = nI j) (hj : j < N) (hN : N < 2 ^ 31) (g : z_J Z mlaw R k n Q 1246 ls (.long (f j) :: st) h) : z_J Z mlaw R k n Q 1245 ls (.int i :: .ref a :: st) h := z_lald dlaw_1245 rfl hh hi hj hN g
def blaw_1246 : zB := [(1246, .iload 6, 1248, nI 0), (1248, .i2l, 1249, nI 0)]
theorem blaw_1246_ok : z_ok code 1246 blaw_1246 1249 = true := by decide +kernel
theorem ilaw_1246 (hr : z_run 7 blaw_1246 ls st = some (ls', st')) (g : z_J Z mlaw R k n Q 1249 ls' st' h) : z_J Z mlaw R k n Q 1246 ls st h := z_jr blaw_1246 blaw_1246_ok hr g
theorem dlaw_1249 : decode code 1249 = .ok (.lcmp, 1) := by decide +kernel
theorem ilaw_1249 {xl yl : Int64} (g : z_J Z mlaw R k n Q 1250 ls (.int (lg_cmp xl yl) :: st) h) : z_J Z mlaw R k n Q 1249 ls (.long yl :: .long xl :: st) h := z_lcmp_id dlaw_1249 rfl g
theorem dlaw_1250 : decode code 1250 = .ok (.ifCond .eq 5, 3) := by decide +kernel
theorem ilaw_1250 (kt : x = 0 → z_J Z mlaw R k n Q 1255 ls st h) (kf : ¬ x = 0 → z_J Z mlaw R k n Q 1253 ls st h) : z_J Z mlaw R k n Q 1250 ls (.int x :: st) h := z_if_eq dlaw_1250 (tgt := 1255) (by decide) rfl kt kf
def blaw_1253 : zB := [(1253, .iconst 0, 1254, nI 0)]
theorem blaw_1253_ok : z_ok code 1253 blaw_1253 1254 = true := by decide +kernel
theorem ilaw_1253 (hr : z_run 7 blaw_1253 ls st = some (ls', st')) (g : z_J Z mlaw R k n Q 1254 ls' st' h) : z_J Z mlaw R k n Q 1253 ls st h := z_jr blaw_1253 blaw_1253_ok hr g
theorem dlaw_1254 : decode code 1254 = .ok (.ireturn, 1) := by decide +kernel
theorem ilaw_1254 (hz : narrow .boolean (.int x) = .int x) (hk : k ≤ R.cells) (hs : n ≤ R.slots) (hq : Q (.inl (some (.int x))) h) : z_J Z mlaw R k n Q 1254 ls [.int x] h := z_iret (ty := .boolean) dlaw_1254 rfl hz hk hs hq
def blaw_1255 : zB := [(1255, .goto 207, 1462, nI 0)]
theorem blaw_1255_ok : z_ok code 1255 blaw_1255 1462 = true := by decide +kernel
theorem ilaw_1255 (hr : z_run 7 blaw_1255 ls st = some (ls', st')) (g : z_J Z mlaw R k n Q 1462 ls' st' h) : z_J Z mlaw R k n Q 1255 ls st h := z_jr blaw_1255 blaw_1255_ok hr g
def blaw_1258 : zB := [(1258, .aload_n 1, 1259, nI 0), (1259, .aload_n 0, 1260, nI 0), (1260, .iload 4, 1262, nI 0), (1262, .iconst 1, 1263, nI 1), (1263, .iadd, 1264, nI 0)]
theorem blaw_1258_ok : z_ok code 1258 blaw_1258 1264 = true := by decide +kernel
theorem ilaw_1258 (hr : z_run 7 blaw_1258 ls st = some (ls', st')) (g : z_J Z mlaw R k n Q 1264 ls' st' h) : z_J Z mlaw R k n Q 1258 ls st h := z_jr blaw_1258 blaw_1258_ok hr g
theorem dlaw_1264 : decode code 1264 = .ok (.iaload, 1) := by decide +kernel
theorem ilaw_1264 (hi : i = nI j) (hj : j < Z.2.1) (hN : Z.2.1 < 2 ^ 31) (g : z_J Z mlaw R k n Q 1265 ls (.int (Z.2.2.1 j) :: st) h) : z_J Z mlaw R k n Q 1264 ls (.int i :: .ref Z.1 :: st) h := z_sld dlaw_1264 rfl hi hj hN g
def blaw_1265 : zB := [(1265, .aload_n 3, 1266, nI 0)]
theorem blaw_1265_ok : z_ok code 1265 blaw_1265 1266 = true := by decide +kernel
theorem ilaw_1265 (hr : z_run 7 blaw_1265 ls st = some (ls', st')) (g : z_J Z mlaw R k n Q 1266 ls' st' h) : z_J Z mlaw R k n Q 1265 ls st h := z_jr blaw_1265 blaw_1265_ok hr g
theorem dlaw_1266 : decode code 1266 = .ok (.invokestatic 144, 3) := by decide +kernel
theorem ilaw_1266 (ha : z_args 3 st [] = some (As, rest)) (hc : z_chk rest As 4 = true) (hR : z_rm R R' 4 k n) (gc : z_J Z mL_lackBySets R' 0 0 Q' 0 As [] h) (kr : ∀ (v : Option Value) (h' : zH), Q' (.inl v) h' → z_J Z mlaw R (k + R'.cells) (n + R'.slots) Q 1269 ls (v.toList ++ rest) h') (kx : ∀ (E : String) (h' : zH), Q' (.inr E) h' → z_JX Z mlaw R (k + R'.cells) (n + R'.slots) Q 1266 ls E h') : z_J Z mlaw R k n Q 1266 ls st h := z_callS (M' := mL_lackBySets) dlaw_1266 rfl cs_L_144 gw677 ha hR (z_chk1 hc) (z_chk2 hc) (z_chk3 hc) gc kr kx
def blaw_1269 : zB := [(1269, .istore 5, 1271, nI 0), (1271, .aload_n 2, 1272, nI 0), (1272, .aload_n 0, 1273, nI 0), (1273, .iload 4, 1275, nI 0), (1275, .iconst 1, 1276, nI 1), (1276, .iadd, 1277, nI 0)]
theorem blaw_1269_ok : z_ok code 1269 blaw_1269 1277 = true := by decide +kernel
theorem ilaw_1269 (hr : z_run 7 blaw_1269 ls st = some (ls', st')) (g : z_J Z mlaw R k n Q 1277 ls' st' h) : z_J Z mlaw R k n Q 1269 ls st h := z_jr blaw_1269 blaw_1269_ok hr g
theorem dlaw_1277 : decode code 1277 = .ok (.iaload, 1) := by decide +kernel
theorem ilaw_1277 (hi : i = nI j) (hj : j < Z.2.1) (hN : Z.2.1 < 2 ^ 31) (g : z_J Z mlaw R k n Q 1278 ls (.int (Z.2.2.1 j) :: st) h) : z_J Z mlaw R k n Q 1277 ls (.int i :: .ref Z.1 :: st) h := z_sld dlaw_1277 rfl hi hj hN g
theorem dlaw_1278 : decode code 1278 = .ok (.invokevirtual 146, 3) := by decide +kernel
theorem ilaw_1278 (ha : z_args 1 st [] = some (As, .ref b :: rest)) (hc : z_chk rest (.ref b :: As) 2 = true) (hh : h r = some (b, .inr (7, fs))) (hR : z_rm R R' 2 k n) (gc : z_J Z mX6_lackBySets R' 0 0 Q' 0 (.ref b :: As) [] h) (kr : ∀ (v : Option Value) (h' : zH), Q' (.inl v) h' → z_J Z mlaw R (k + R'.cells) (n + R'.slots) Q 1281 ls (v.toList ++ rest) h') (kx : ∀ (E : String) (h' : zH), Q' (.inr E) h' → z_JX Z mlaw R (k + R'.cells) (n + R'.slots) Q 1278 ls E h') : z_J Z mlaw R k n Q 1278 ls st h := z_callV (M' := mX6_lackBySets) dlaw_1278 rfl cs_L_146 rfl gw933 gw934 ha hh (ci := 7) rfl hR (z_chk1 hc) (z_chk2 hc) (z_chk3 hc) gc kr kx
def blaw_1281 : zB := [(1281, .istore 6, 1283, nI 0), (1283, .aload_n 2, 1284, nI 0)]
theorem blaw_1281_ok : z_ok code 1281 blaw_1281 1284 = true := by decide +kernel
theorem ilaw_1281 (hr : z_run 7 blaw_1281 ls st = some (ls', st')) (g : z_J Z mlaw R k n Q 1284 ls' st' h) : z_J Z mlaw R k n Q 1281 ls st h := z_jr blaw_1281 blaw_1281_ok hr g
theorem dlaw_1284 : decode code 1284 = .ok (.invokevirtual 85, 3) := by decide +kernel
theorem ilaw_1284 (ha : z_args 0 st [] = some (As, .ref b :: rest)) (hc : z_chk rest (.ref b :: As) 1 = true) (hh : h r = some (b, .inr (7, fs))) (hR : z_rm R R' 1 k n) (gc : z_J Z mX6_thrown R' 0 0 Q' 0 (.ref b :: As) [] h) (kr : ∀ (v : Option Value) (h' : zH), Q' (.inl v) h' → z_J Z mlaw R (k + R'.cells) (n + R'.slots) Q 1287 ls (v.toList ++ rest) h') (kx : ∀ (E : String) (h' : zH), Q' (.inr E) h' → z_JX Z mlaw R (k + R'.cells) (n + R'.slots) Q 1284 ls E h') : z_J Z mlaw R k n Q 1284 ls st h := z_callV (M' := mX6_thrown) dlaw_1284 rfl cs_L_85 rfl gw793 gw794 ha hh (ci := 7) rfl hR (z_chk1 hc) (z_chk2 hc) (z_chk3 hc) gc kr kx
def blaw_1287 : zB := [(1287, .iload 5, 1289, nI 0)]
theorem blaw_1287_ok : z_ok code 1287 blaw_1287 1289 = true := by decide +kernel
theorem ilaw_1287 (hr : z_run 7 blaw_1287 ls st = some (ls', st')) (g : z_J Z mlaw R k n Q 1289 ls' st' h) : z_J Z mlaw R k n Q 1287 ls st h := z_jr blaw_1287 blaw_1287_ok hr g
theorem dlaw_1289 : decode code 1289 = .ok (.if_icmp .eq 5, 3) := by decide +kernel
theorem ilaw_1289 (kt : x = y → z_J Z mlaw R k n Q 1294 ls st h) (kf : ¬ x = y → z_J Z mlaw R k n Q 1292 ls st h) : z_J Z mlaw R k n Q 1289 ls (.int y :: .int x :: st) h := z_ic_eq dlaw_1289 (tgt := 1294) (by decide) rfl kt kf
def blaw_1292 : zB := [(1292, .iconst 0, 1293, nI 0)]
theorem blaw_1292_ok : z_ok code 1292 blaw_1292 1293 = true := by decide +kernel
theorem ilaw_1292 (hr : z_run 7 blaw_1292 ls st = some (ls', st')) (g : z_J Z mlaw R k n Q 1293 ls' st' h) : z_J Z mlaw R k n Q 1292 ls st h := z_jr blaw_1292 blaw_1292_ok hr g
theorem dlaw_1293 : decode code 1293 = .ok (.ireturn, 1) := by decide +kernel
theorem ilaw_1293 (hz : narrow .boolean (.int x) = .int x) (hk : k ≤ R.cells) (hs : n ≤ R.slots) (hq : Q (.inl (some (.int x))) h) : z_J Z mlaw R k n Q 1293 ls [.int x] h := z_iret (ty := .boolean) dlaw_1293 rfl hz hk hs hq
def blaw_1294 : zB := [(1294, .iload 5, 1296, nI 0)]
theorem blaw_1294_ok : z_ok code 1294 blaw_1294 1296 = true := by decide +kernel
theorem ilaw_1294 (hr : z_run 7 blaw_1294 ls st = some (ls', st')) (g : z_J Z mlaw R k n Q 1296 ls' st' h) : z_J Z mlaw R k n Q 1294 ls st h := z_jr blaw_1294 blaw_1294_ok hr g
theorem dlaw_1296 : decode code 1296 = .ok (.ifCond .ne 15, 3) := by decide +kernel
theorem ilaw_1296 (kt : ¬ x = 0 → z_J Z mlaw R k n Q 1311 ls st h) (kf : x = 0 → z_J Z mlaw R k n Q 1299 ls st h) : z_J Z mlaw R k n Q 1296 ls (.int x :: st) h := z_if_ne dlaw_1296 (tgt := 1311) (by decide) rfl kt kf
def blaw_1299 : zB := [(1299, .aload_n 3, 1300, nI 0), (1300, .iconst 0, 1301, nI 0)]
theorem blaw_1299_ok : z_ok code 1299 blaw_1299 1301 = true := by decide +kernel
theorem ilaw_1299 (hr : z_run 7 blaw_1299 ls st = some (ls', st')) (g : z_J Z mlaw R k n Q 1301 ls' st' h) : z_J Z mlaw R k n Q 1299 ls st h := z_jr blaw_1299 blaw_1299_ok hr g
theorem dlaw_1301 : decode code 1301 = .ok (.laload, 1) := by decide +kernel
theorem ilaw_1301 {f : Nat → Int64} (hh : h r = some (a, .inl (2, N, .inr (.inl f)))) (hi : i = nI j) (hj : j < N) (hN : N < 2 ^ 31) (g : z_J Z mlaw R k n Q 1302 ls (.long (f j) :: st) h) : z_J Z mlaw R k n Q 1301 ls (.int i :: .ref a :: st) h := z_lald dlaw_1301 rfl hh hi hj hN g
def blaw_1302 : zB := [(1302, .iload 6, 1304, nI 0), (1304, .i2l, 1305, nI 0)]
theorem blaw_1302_ok : z_ok code 1302 blaw_1302 1305 = true := by decide +kernel
theorem ilaw_1302 (hr : z_run 7 blaw_1302 ls st = some (ls', st')) (g : z_J Z mlaw R k n Q 1305 ls' st' h) : z_J Z mlaw R k n Q 1302 ls st h := z_jr blaw_1302 blaw_1302_ok hr g
theorem dlaw_1305 : decode code 1305 = .ok (.lcmp, 1) := by decide +kernel
theorem ilaw_1305 {xl yl : Int64} (g : z_J Z mlaw R k n Q 1306 ls (.int (lg_cmp xl yl) :: st) h) : z_J Z mlaw R k n Q 1305 ls (.long yl :: .long xl :: st) h := z_lcmp_id dlaw_1305 rfl g
theorem dlaw_1306 : decode code 1306 = .ok (.ifCond .eq 5, 3) := by decide +kernel
theorem ilaw_1306 (kt : x = 0 → z_J Z mlaw R k n Q 1311 ls st h) (kf : ¬ x = 0 → z_J Z mlaw R k n Q 1309 ls st h) : z_J Z mlaw R k n Q 1306 ls (.int x :: st) h := z_if_eq dlaw_1306 (tgt := 1311) (by decide) rfl kt kf
def blaw_1309 : zB := [(1309, .iconst 0, 1310, nI 0)]
theorem blaw_1309_ok : z_ok code 1309 blaw_1309 1310 = true := by decide +kernel
theorem ilaw_1309 (hr : z_run 7 blaw_1309 ls st = some (ls', st')) (g : z_J Z mlaw R k n Q 1310 ls' st' h) : z_J Z mlaw R k n Q 1309 ls st h := z_jr blaw_1309 blaw_1309_ok hr g
theorem dlaw_1310 : decode code 1310 = .ok (.ireturn, 1) := by decide +kernel
theorem ilaw_1310 (hz : narrow .boolean (.int x) = .int x) (hk : k ≤ R.cells) (hs : n ≤ R.slots) (hq : Q (.inl (some (.int x))) h) : z_J Z mlaw R k n Q 1310 ls [.int x] h := z_iret (ty := .boolean) dlaw_1310 rfl hz hk hs hq
def blaw_1311 : zB := [(1311, .goto 151, 1462, nI 0)]
theorem blaw_1311_ok : z_ok code 1311 blaw_1311 1462 = true := by decide +kernel
theorem ilaw_1311 (hr : z_run 7 blaw_1311 ls st = some (ls', st')) (g : z_J Z mlaw R k n Q 1462 ls' st' h) : z_J Z mlaw R k n Q 1311 ls st h := z_jr blaw_1311 blaw_1311_ok hr g
def blaw_1314 : zB := [(1314, .aload_n 1, 1315, nI 0), (1315, .aload_n 0, 1316, nI 0), (1316, .iload 4, 1318, nI 0), (1318, .iconst 1, 1319, nI 1), (1319, .iadd, 1320, nI 0)]
theorem blaw_1314_ok : z_ok code 1314 blaw_1314 1320 = true := by decide +kernel
theorem ilaw_1314 (hr : z_run 7 blaw_1314 ls st = some (ls', st')) (g : z_J Z mlaw R k n Q 1320 ls' st' h) : z_J Z mlaw R k n Q 1314 ls st h := z_jr blaw_1314 blaw_1314_ok hr g
theorem dlaw_1320 : decode code 1320 = .ok (.iaload, 1) := by decide +kernel
theorem ilaw_1320 (hi : i = nI j) (hj : j < Z.2.1) (hN : Z.2.1 < 2 ^ 31) (g : z_J Z mlaw R k n Q 1321 ls (.int (Z.2.2.1 j) :: st) h) : z_J Z mlaw R k n Q 1320 ls (.int i :: .ref Z.1 :: st) h := z_sld dlaw_1320 rfl hi hj hN g
def blaw_1321 : zB := [(1321, .aload_n 0, 1322, nI 0), (1322, .iload 4, 1324, nI 0), (1324, .iconst 2, 1325, nI 2), (1325, .iadd, 1326, nI 0)]
theorem blaw_1321_ok : z_ok code 1321 blaw_1321 1326 = true := by decide +kernel
theorem ilaw_1321 (hr : z_run 7 blaw_1321 ls st = some (ls', st')) (g : z_J Z mlaw R k n Q 1326 ls' st' h) : z_J Z mlaw R k n Q 1321 ls st h := z_jr blaw_1321 blaw_1321_ok hr g
theorem dlaw_1326 : decode code 1326 = .ok (.iaload, 1) := by decide +kernel
theorem ilaw_1326 (hi : i = nI j) (hj : j < Z.2.1) (hN : Z.2.1 < 2 ^ 31) (g : z_J Z mlaw R k n Q 1327 ls (.int (Z.2.2.1 j) :: st) h) : z_J Z mlaw R k n Q 1326 ls (.int i :: .ref Z.1 :: st) h := z_sld dlaw_1326 rfl hi hj hN g
def blaw_1327 : zB := [(1327, .aload_n 0, 1328, nI 0), (1328, .iload 4, 1330, nI 0), (1330, .iconst 3, 1331, nI 3), (1331, .iadd, 1332, nI 0)]
theorem blaw_1327_ok : z_ok code 1327 blaw_1327 1332 = true := by decide +kernel
theorem ilaw_1327 (hr : z_run 7 blaw_1327 ls st = some (ls', st')) (g : z_J Z mlaw R k n Q 1332 ls' st' h) : z_J Z mlaw R k n Q 1327 ls st h := z_jr blaw_1327 blaw_1327_ok hr g
theorem dlaw_1332 : decode code 1332 = .ok (.iaload, 1) := by decide +kernel
theorem ilaw_1332 (hi : i = nI j) (hj : j < Z.2.1) (hN : Z.2.1 < 2 ^ 31) (g : z_J Z mlaw R k n Q 1333 ls (.int (Z.2.2.1 j) :: st) h) : z_J Z mlaw R k n Q 1332 ls (.int i :: .ref Z.1 :: st) h := z_sld dlaw_1332 rfl hi hj hN g
def blaw_1333 : zB := [(1333, .aload_n 3, 1334, nI 0)]
theorem blaw_1333_ok : z_ok code 1333 blaw_1333 1334 = true := by decide +kernel
theorem ilaw_1333 (hr : z_run 7 blaw_1333 ls st = some (ls', st')) (g : z_J Z mlaw R k n Q 1334 ls' st' h) : z_J Z mlaw R k n Q 1333 ls st h := z_jr blaw_1333 blaw_1333_ok hr g
theorem dlaw_1334 : decode code 1334 = .ok (.invokestatic 147, 3) := by decide +kernel
theorem ilaw_1334 (ha : z_args 5 st [] = some (As, rest)) (hc : z_chk rest As 6 = true) (hR : z_rm R R' 6 k n) (gc : z_J Z mL_spare R' 0 0 Q' 0 As [] h) (kr : ∀ (v : Option Value) (h' : zH), Q' (.inl v) h' → z_J Z mlaw R (k + R'.cells) (n + R'.slots) Q 1337 ls (v.toList ++ rest) h') (kx : ∀ (E : String) (h' : zH), Q' (.inr E) h' → z_JX Z mlaw R (k + R'.cells) (n + R'.slots) Q 1334 ls E h') : z_J Z mlaw R k n Q 1334 ls st h := z_callS (M' := mL_spare) dlaw_1334 rfl cs_L_147 gw698 ha hR (z_chk1 hc) (z_chk2 hc) (z_chk3 hc) gc kr kx
def blaw_1337 : zB := [(1337, .istore 5, 1339, nI 0), (1339, .aload_n 2, 1340, nI 0), (1340, .aload_n 0, 1341, nI 0), (1341, .iload 4, 1343, nI 0), (1343, .iconst 1, 1344, nI 1), (1344, .iadd, 1345, nI 0)]
theorem blaw_1337_ok : z_ok code 1337 blaw_1337 1345 = true := by decide +kernel
theorem ilaw_1337 (hr : z_run 7 blaw_1337 ls st = some (ls', st')) (g : z_J Z mlaw R k n Q 1345 ls' st' h) : z_J Z mlaw R k n Q 1337 ls st h := z_jr blaw_1337 blaw_1337_ok hr g
theorem dlaw_1345 : decode code 1345 = .ok (.iaload, 1) := by decide +kernel
theorem ilaw_1345 (hi : i = nI j) (hj : j < Z.2.1) (hN : Z.2.1 < 2 ^ 31) (g : z_J Z mlaw R k n Q 1346 ls (.int (Z.2.2.1 j) :: st) h) : z_J Z mlaw R k n Q 1345 ls (.int i :: .ref Z.1 :: st) h := z_sld dlaw_1345 rfl hi hj hN g
def blaw_1346 : zB := [(1346, .aload_n 0, 1347, nI 0), (1347, .iload 4, 1349, nI 0), (1349, .iconst 2, 1350, nI 2), (1350, .iadd, 1351, nI 0)]
theorem blaw_1346_ok : z_ok code 1346 blaw_1346 1351 = true := by decide +kernel
theorem ilaw_1346 (hr : z_run 7 blaw_1346 ls st = some (ls', st')) (g : z_J Z mlaw R k n Q 1351 ls' st' h) : z_J Z mlaw R k n Q 1346 ls st h := z_jr blaw_1346 blaw_1346_ok hr g
theorem dlaw_1351 : decode code 1351 = .ok (.iaload, 1) := by decide +kernel
theorem ilaw_1351 (hi : i = nI j) (hj : j < Z.2.1) (hN : Z.2.1 < 2 ^ 31) (g : z_J Z mlaw R k n Q 1352 ls (.int (Z.2.2.1 j) :: st) h) : z_J Z mlaw R k n Q 1351 ls (.int i :: .ref Z.1 :: st) h := z_sld dlaw_1351 rfl hi hj hN g
def blaw_1352 : zB := [(1352, .aload_n 0, 1353, nI 0), (1353, .iload 4, 1355, nI 0), (1355, .iconst 3, 1356, nI 3), (1356, .iadd, 1357, nI 0)]
theorem blaw_1352_ok : z_ok code 1352 blaw_1352 1357 = true := by decide +kernel
theorem ilaw_1352 (hr : z_run 7 blaw_1352 ls st = some (ls', st')) (g : z_J Z mlaw R k n Q 1357 ls' st' h) : z_J Z mlaw R k n Q 1352 ls st h := z_jr blaw_1352 blaw_1352_ok hr g
theorem dlaw_1357 : decode code 1357 = .ok (.iaload, 1) := by decide +kernel
theorem ilaw_1357 (hi : i = nI j) (hj : j < Z.2.1) (hN : Z.2.1 < 2 ^ 31) (g : z_J Z mlaw R k n Q 1358 ls (.int (Z.2.2.1 j) :: st) h) : z_J Z mlaw R k n Q 1357 ls (.int i :: .ref Z.1 :: st) h := z_sld dlaw_1357 rfl hi hj hN g
theorem dlaw_1358 : decode code 1358 = .ok (.invokevirtual 149, 3) := by decide +kernel
theorem ilaw_1358 (ha : z_args 3 st [] = some (As, .ref b :: rest)) (hc : z_chk rest (.ref b :: As) 5 = true) (hh : h r = some (b, .inr (7, fs))) (hR : z_rm R R' 5 k n) (gc : z_J Z mX6_spare R' 0 0 Q' 0 (.ref b :: As) [] h) (kr : ∀ (v : Option Value) (h' : zH), Q' (.inl v) h' → z_J Z mlaw R (k + R'.cells) (n + R'.slots) Q 1361 ls (v.toList ++ rest) h') (kx : ∀ (E : String) (h' : zH), Q' (.inr E) h' → z_JX Z mlaw R (k + R'.cells) (n + R'.slots) Q 1358 ls E h') : z_J Z mlaw R k n Q 1358 ls st h := z_callV (M' := mX6_spare) dlaw_1358 rfl cs_L_149 rfl gw937 gw938 ha hh (ci := 7) rfl hR (z_chk1 hc) (z_chk2 hc) (z_chk3 hc) gc kr kx
def blaw_1361 : zB := [(1361, .istore 6, 1363, nI 0), (1363, .aload_n 2, 1364, nI 0)]
theorem blaw_1361_ok : z_ok code 1361 blaw_1361 1364 = true := by decide +kernel
theorem ilaw_1361 (hr : z_run 7 blaw_1361 ls st = some (ls', st')) (g : z_J Z mlaw R k n Q 1364 ls' st' h) : z_J Z mlaw R k n Q 1361 ls st h := z_jr blaw_1361 blaw_1361_ok hr g
theorem dlaw_1364 : decode code 1364 = .ok (.invokevirtual 85, 3) := by decide +kernel
theorem ilaw_1364 (ha : z_args 0 st [] = some (As, .ref b :: rest)) (hc : z_chk rest (.ref b :: As) 1 = true) (hh : h r = some (b, .inr (7, fs))) (hR : z_rm R R' 1 k n) (gc : z_J Z mX6_thrown R' 0 0 Q' 0 (.ref b :: As) [] h) (kr : ∀ (v : Option Value) (h' : zH), Q' (.inl v) h' → z_J Z mlaw R (k + R'.cells) (n + R'.slots) Q 1367 ls (v.toList ++ rest) h') (kx : ∀ (E : String) (h' : zH), Q' (.inr E) h' → z_JX Z mlaw R (k + R'.cells) (n + R'.slots) Q 1364 ls E h') : z_J Z mlaw R k n Q 1364 ls st h := z_callV (M' := mX6_thrown) dlaw_1364 rfl cs_L_85 rfl gw793 gw794 ha hh (ci := 7) rfl hR (z_chk1 hc) (z_chk2 hc) (z_chk3 hc) gc kr kx
def blaw_1367 : zB := [(1367, .iload 5, 1369, nI 0)]
theorem blaw_1367_ok : z_ok code 1367 blaw_1367 1369 = true := by decide +kernel
theorem ilaw_1367 (hr : z_run 7 blaw_1367 ls st = some (ls', st')) (g : z_J Z mlaw R k n Q 1369 ls' st' h) : z_J Z mlaw R k n Q 1367 ls st h := z_jr blaw_1367 blaw_1367_ok hr g
theorem dlaw_1369 : decode code 1369 = .ok (.if_icmp .eq 5, 3) := by decide +kernel
theorem ilaw_1369 (kt : x = y → z_J Z mlaw R k n Q 1374 ls st h) (kf : ¬ x = y → z_J Z mlaw R k n Q 1372 ls st h) : z_J Z mlaw R k n Q 1369 ls (.int y :: .int x :: st) h := z_ic_eq dlaw_1369 (tgt := 1374) (by decide) rfl kt kf
def blaw_1372 : zB := [(1372, .iconst 0, 1373, nI 0)]
theorem blaw_1372_ok : z_ok code 1372 blaw_1372 1373 = true := by decide +kernel
theorem ilaw_1372 (hr : z_run 7 blaw_1372 ls st = some (ls', st')) (g : z_J Z mlaw R k n Q 1373 ls' st' h) : z_J Z mlaw R k n Q 1372 ls st h := z_jr blaw_1372 blaw_1372_ok hr g
theorem dlaw_1373 : decode code 1373 = .ok (.ireturn, 1) := by decide +kernel
theorem ilaw_1373 (hz : narrow .boolean (.int x) = .int x) (hk : k ≤ R.cells) (hs : n ≤ R.slots) (hq : Q (.inl (some (.int x))) h) : z_J Z mlaw R k n Q 1373 ls [.int x] h := z_iret (ty := .boolean) dlaw_1373 rfl hz hk hs hq
def blaw_1374 : zB := [(1374, .iload 5, 1376, nI 0)]
theorem blaw_1374_ok : z_ok code 1374 blaw_1374 1376 = true := by decide +kernel
theorem ilaw_1374 (hr : z_run 7 blaw_1374 ls st = some (ls', st')) (g : z_J Z mlaw R k n Q 1376 ls' st' h) : z_J Z mlaw R k n Q 1374 ls st h := z_jr blaw_1374 blaw_1374_ok hr g
theorem dlaw_1376 : decode code 1376 = .ok (.ifCond .ne 15, 3) := by decide +kernel
theorem ilaw_1376 (kt : ¬ x = 0 → z_J Z mlaw R k n Q 1391 ls st h) (kf : x = 0 → z_J Z mlaw R k n Q 1379 ls st h) : z_J Z mlaw R k n Q 1376 ls (.int x :: st) h := z_if_ne dlaw_1376 (tgt := 1391) (by decide) rfl kt kf
def blaw_1379 : zB := [(1379, .aload_n 3, 1380, nI 0), (1380, .iconst 0, 1381, nI 0)]
theorem blaw_1379_ok : z_ok code 1379 blaw_1379 1381 = true := by decide +kernel
theorem ilaw_1379 (hr : z_run 7 blaw_1379 ls st = some (ls', st')) (g : z_J Z mlaw R k n Q 1381 ls' st' h) : z_J Z mlaw R k n Q 1379 ls st h := z_jr blaw_1379 blaw_1379_ok hr g
theorem dlaw_1381 : decode code 1381 = .ok (.laload, 1) := by decide +kernel
theorem ilaw_1381 {f : Nat → Int64} (hh : h r = some (a, .inl (2, N, .inr (.inl f)))) (hi : i = nI j) (hj : j < N) (hN : N < 2 ^ 31) (g : z_J Z mlaw R k n Q 1382 ls (.long (f j) :: st) h) : z_J Z mlaw R k n Q 1381 ls (.int i :: .ref a :: st) h := z_lald dlaw_1381 rfl hh hi hj hN g
def blaw_1382 : zB := [(1382, .iload 6, 1384, nI 0), (1384, .i2l, 1385, nI 0)]
theorem blaw_1382_ok : z_ok code 1382 blaw_1382 1385 = true := by decide +kernel
theorem ilaw_1382 (hr : z_run 7 blaw_1382 ls st = some (ls', st')) (g : z_J Z mlaw R k n Q 1385 ls' st' h) : z_J Z mlaw R k n Q 1382 ls st h := z_jr blaw_1382 blaw_1382_ok hr g
theorem dlaw_1385 : decode code 1385 = .ok (.lcmp, 1) := by decide +kernel
theorem ilaw_1385 {xl yl : Int64} (g : z_J Z mlaw R k n Q 1386 ls (.int (lg_cmp xl yl) :: st) h) : z_J Z mlaw R k n Q 1385 ls (.long yl :: .long xl :: st) h := z_lcmp_id dlaw_1385 rfl g
theorem dlaw_1386 : decode code 1386 = .ok (.ifCond .eq 5, 3) := by decide +kernel
theorem ilaw_1386 (kt : x = 0 → z_J Z mlaw R k n Q 1391 ls st h) (kf : ¬ x = 0 → z_J Z mlaw R k n Q 1389 ls st h) : z_J Z mlaw R k n Q 1386 ls (.int x :: st) h := z_if_eq dlaw_1386 (tgt := 1391) (by decide) rfl kt kf
def blaw_1389 : zB := [(1389, .iconst 0, 1390, nI 0)]
theorem blaw_1389_ok : z_ok code 1389 blaw_1389 1390 = true := by decide +kernel
theorem ilaw_1389 (hr : z_run 7 blaw_1389 ls st = some (ls', st')) (g : z_J Z mlaw R k n Q 1390 ls' st' h) : z_J Z mlaw R k n Q 1389 ls st h := z_jr blaw_1389 blaw_1389_ok hr g
theorem dlaw_1390 : decode code 1390 = .ok (.ireturn, 1) := by decide +kernel
theorem ilaw_1390 (hz : narrow .boolean (.int x) = .int x) (hk : k ≤ R.cells) (hs : n ≤ R.slots) (hq : Q (.inl (some (.int x))) h) : z_J Z mlaw R k n Q 1390 ls [.int x] h := z_iret (ty := .boolean) dlaw_1390 rfl hz hk hs hq
def blaw_1391 : zB := [(1391, .goto 71, 1462, nI 0)]
theorem blaw_1391_ok : z_ok code 1391 blaw_1391 1462 = true := by decide +kernel
theorem ilaw_1391 (hr : z_run 7 blaw_1391 ls st = some (ls', st')) (g : z_J Z mlaw R k n Q 1462 ls' st' h) : z_J Z mlaw R k n Q 1391 ls st h := z_jr blaw_1391 blaw_1391_ok hr g
def blaw_1394 : zB := [(1394, .aload_n 1, 1395, nI 0), (1395, .aload_n 0, 1396, nI 0), (1396, .iload 4, 1398, nI 0), (1398, .iconst 1, 1399, nI 1), (1399, .iadd, 1400, nI 0)]
theorem blaw_1394_ok : z_ok code 1394 blaw_1394 1400 = true := by decide +kernel
theorem ilaw_1394 (hr : z_run 7 blaw_1394 ls st = some (ls', st')) (g : z_J Z mlaw R k n Q 1400 ls' st' h) : z_J Z mlaw R k n Q 1394 ls st h := z_jr blaw_1394 blaw_1394_ok hr g
theorem dlaw_1400 : decode code 1400 = .ok (.iaload, 1) := by decide +kernel
theorem ilaw_1400 (hi : i = nI j) (hj : j < Z.2.1) (hN : Z.2.1 < 2 ^ 31) (g : z_J Z mlaw R k n Q 1401 ls (.int (Z.2.2.1 j) :: st) h) : z_J Z mlaw R k n Q 1400 ls (.int i :: .ref Z.1 :: st) h := z_sld dlaw_1400 rfl hi hj hN g
def blaw_1401 : zB := [(1401, .aload_n 0, 1402, nI 0), (1402, .iload 4, 1404, nI 0), (1404, .iconst 2, 1405, nI 2), (1405, .iadd, 1406, nI 0)]
theorem blaw_1401_ok : z_ok code 1401 blaw_1401 1406 = true := by decide +kernel
theorem ilaw_1401 (hr : z_run 7 blaw_1401 ls st = some (ls', st')) (g : z_J Z mlaw R k n Q 1406 ls' st' h) : z_J Z mlaw R k n Q 1401 ls st h := z_jr blaw_1401 blaw_1401_ok hr g
theorem dlaw_1406 : decode code 1406 = .ok (.iaload, 1) := by decide +kernel
theorem ilaw_1406 (hi : i = nI j) (hj : j < Z.2.1) (hN : Z.2.1 < 2 ^ 31) (g : z_J Z mlaw R k n Q 1407 ls (.int (Z.2.2.1 j) :: st) h) : z_J Z mlaw R k n Q 1406 ls (.int i :: .ref Z.1 :: st) h := z_sld dlaw_1406 rfl hi hj hN g
def blaw_1407 : zB := [(1407, .aload_n 3, 1408, nI 0)]
theorem blaw_1407_ok : z_ok code 1407 blaw_1407 1408 = true := by decide +kernel
theorem ilaw_1407 (hr : z_run 7 blaw_1407 ls st = some (ls', st')) (g : z_J Z mlaw R k n Q 1408 ls' st' h) : z_J Z mlaw R k n Q 1407 ls st h := z_jr blaw_1407 blaw_1407_ok hr g
theorem dlaw_1408 : decode code 1408 = .ok (.invokestatic 150, 3) := by decide +kernel
theorem ilaw_1408 (ha : z_args 4 st [] = some (As, rest)) (hc : z_chk rest As 5 = true) (hR : z_rm R R' 5 k n) (gc : z_J Z mL_most R' 0 0 Q' 0 As [] h) (kr : ∀ (v : Option Value) (h' : zH), Q' (.inl v) h' → z_J Z mlaw R (k + R'.cells) (n + R'.slots) Q 1411 ls (v.toList ++ rest) h') (kx : ∀ (E : String) (h' : zH), Q' (.inr E) h' → z_JX Z mlaw R (k + R'.cells) (n + R'.slots) Q 1408 ls E h') : z_J Z mlaw R k n Q 1408 ls st h := z_callS (M' := mL_most) dlaw_1408 rfl cs_L_150 gw705 ha hR (z_chk1 hc) (z_chk2 hc) (z_chk3 hc) gc kr kx
def blaw_1411 : zB := [(1411, .istore 5, 1413, nI 0), (1413, .aload_n 2, 1414, nI 0), (1414, .aload_n 0, 1415, nI 0), (1415, .iload 4, 1417, nI 0), (1417, .iconst 1, 1418, nI 1), (1418, .iadd, 1419, nI 0)]
theorem blaw_1411_ok : z_ok code 1411 blaw_1411 1419 = true := by decide +kernel
theorem ilaw_1411 (hr : z_run 7 blaw_1411 ls st = some (ls', st')) (g : z_J Z mlaw R k n Q 1419 ls' st' h) : z_J Z mlaw R k n Q 1411 ls st h := z_jr blaw_1411 blaw_1411_ok hr g
theorem dlaw_1419 : decode code 1419 = .ok (.iaload, 1) := by decide +kernel
theorem ilaw_1419 (hi : i = nI j) (hj : j < Z.2.1) (hN : Z.2.1 < 2 ^ 31) (g : z_J Z mlaw R k n Q 1420 ls (.int (Z.2.2.1 j) :: st) h) : z_J Z mlaw R k n Q 1419 ls (.int i :: .ref Z.1 :: st) h := z_sld dlaw_1419 rfl hi hj hN g
def blaw_1420 : zB := [(1420, .aload_n 0, 1421, nI 0), (1421, .iload 4, 1423, nI 0), (1423, .iconst 2, 1424, nI 2), (1424, .iadd, 1425, nI 0)]
theorem blaw_1420_ok : z_ok code 1420 blaw_1420 1425 = true := by decide +kernel
theorem ilaw_1420 (hr : z_run 7 blaw_1420 ls st = some (ls', st')) (g : z_J Z mlaw R k n Q 1425 ls' st' h) : z_J Z mlaw R k n Q 1420 ls st h := z_jr blaw_1420 blaw_1420_ok hr g
theorem dlaw_1425 : decode code 1425 = .ok (.iaload, 1) := by decide +kernel
theorem ilaw_1425 (hi : i = nI j) (hj : j < Z.2.1) (hN : Z.2.1 < 2 ^ 31) (g : z_J Z mlaw R k n Q 1426 ls (.int (Z.2.2.1 j) :: st) h) : z_J Z mlaw R k n Q 1425 ls (.int i :: .ref Z.1 :: st) h := z_sld dlaw_1425 rfl hi hj hN g
theorem dlaw_1426 : decode code 1426 = .ok (.invokevirtual 152, 3) := by decide +kernel
theorem ilaw_1426 (ha : z_args 2 st [] = some (As, .ref b :: rest)) (hc : z_chk rest (.ref b :: As) 7 = true) (hh : h r = some (b, .inr (7, fs))) (hR : z_rm R R' 7 k n) (gc : z_J Z mX6_most R' 0 0 Q' 0 (.ref b :: As) [] h) (kr : ∀ (v : Option Value) (h' : zH), Q' (.inl v) h' → z_J Z mlaw R (k + R'.cells) (n + R'.slots) Q 1429 ls (v.toList ++ rest) h') (kx : ∀ (E : String) (h' : zH), Q' (.inr E) h' → z_JX Z mlaw R (k + R'.cells) (n + R'.slots) Q 1426 ls E h') : z_J Z mlaw R k n Q 1426 ls st h := z_callV (M' := mX6_most) dlaw_1426 rfl cs_L_152 rfl gw942 gw943 ha hh (ci := 7) rfl hR (z_chk1 hc) (z_chk2 hc) (z_chk3 hc) gc kr kx
def blaw_1429 : zB := [(1429, .istore 6, 1431, nI 0), (1431, .aload_n 2, 1432, nI 0)]
theorem blaw_1429_ok : z_ok code 1429 blaw_1429 1432 = true := by decide +kernel
theorem ilaw_1429 (hr : z_run 7 blaw_1429 ls st = some (ls', st')) (g : z_J Z mlaw R k n Q 1432 ls' st' h) : z_J Z mlaw R k n Q 1429 ls st h := z_jr blaw_1429 blaw_1429_ok hr g
theorem dlaw_1432 : decode code 1432 = .ok (.invokevirtual 85, 3) := by decide +kernel
theorem ilaw_1432 (ha : z_args 0 st [] = some (As, .ref b :: rest)) (hc : z_chk rest (.ref b :: As) 1 = true) (hh : h r = some (b, .inr (7, fs))) (hR : z_rm R R' 1 k n) (gc : z_J Z mX6_thrown R' 0 0 Q' 0 (.ref b :: As) [] h) (kr : ∀ (v : Option Value) (h' : zH), Q' (.inl v) h' → z_J Z mlaw R (k + R'.cells) (n + R'.slots) Q 1435 ls (v.toList ++ rest) h') (kx : ∀ (E : String) (h' : zH), Q' (.inr E) h' → z_JX Z mlaw R (k + R'.cells) (n + R'.slots) Q 1432 ls E h') : z_J Z mlaw R k n Q 1432 ls st h := z_callV (M' := mX6_thrown) dlaw_1432 rfl cs_L_85 rfl gw793 gw794 ha hh (ci := 7) rfl hR (z_chk1 hc) (z_chk2 hc) (z_chk3 hc) gc kr kx
def blaw_1435 : zB := [(1435, .iload 5, 1437, nI 0)]
theorem blaw_1435_ok : z_ok code 1435 blaw_1435 1437 = true := by decide +kernel
theorem ilaw_1435 (hr : z_run 7 blaw_1435 ls st = some (ls', st')) (g : z_J Z mlaw R k n Q 1437 ls' st' h) : z_J Z mlaw R k n Q 1435 ls st h := z_jr blaw_1435 blaw_1435_ok hr g
theorem dlaw_1437 : decode code 1437 = .ok (.if_icmp .eq 5, 3) := by decide +kernel
theorem ilaw_1437 (kt : x = y → z_J Z mlaw R k n Q 1442 ls st h) (kf : ¬ x = y → z_J Z mlaw R k n Q 1440 ls st h) : z_J Z mlaw R k n Q 1437 ls (.int y :: .int x :: st) h := z_ic_eq dlaw_1437 (tgt := 1442) (by decide) rfl kt kf
def blaw_1440 : zB := [(1440, .iconst 0, 1441, nI 0)]
theorem blaw_1440_ok : z_ok code 1440 blaw_1440 1441 = true := by decide +kernel
theorem ilaw_1440 (hr : z_run 7 blaw_1440 ls st = some (ls', st')) (g : z_J Z mlaw R k n Q 1441 ls' st' h) : z_J Z mlaw R k n Q 1440 ls st h := z_jr blaw_1440 blaw_1440_ok hr g
theorem dlaw_1441 : decode code 1441 = .ok (.ireturn, 1) := by decide +kernel
theorem ilaw_1441 (hz : narrow .boolean (.int x) = .int x) (hk : k ≤ R.cells) (hs : n ≤ R.slots) (hq : Q (.inl (some (.int x))) h) : z_J Z mlaw R k n Q 1441 ls [.int x] h := z_iret (ty := .boolean) dlaw_1441 rfl hz hk hs hq
def blaw_1442 : zB := [(1442, .iload 5, 1444, nI 0)]
theorem blaw_1442_ok : z_ok code 1442 blaw_1442 1444 = true := by decide +kernel
theorem ilaw_1442 (hr : z_run 7 blaw_1442 ls st = some (ls', st')) (g : z_J Z mlaw R k n Q 1444 ls' st' h) : z_J Z mlaw R k n Q 1442 ls st h := z_jr blaw_1442 blaw_1442_ok hr g
theorem dlaw_1444 : decode code 1444 = .ok (.ifCond .ne 15, 3) := by decide +kernel
theorem ilaw_1444 (kt : ¬ x = 0 → z_J Z mlaw R k n Q 1459 ls st h) (kf : x = 0 → z_J Z mlaw R k n Q 1447 ls st h) : z_J Z mlaw R k n Q 1444 ls (.int x :: st) h := z_if_ne dlaw_1444 (tgt := 1459) (by decide) rfl kt kf
def blaw_1447 : zB := [(1447, .aload_n 3, 1448, nI 0), (1448, .iconst 0, 1449, nI 0)]
theorem blaw_1447_ok : z_ok code 1447 blaw_1447 1449 = true := by decide +kernel
theorem ilaw_1447 (hr : z_run 7 blaw_1447 ls st = some (ls', st')) (g : z_J Z mlaw R k n Q 1449 ls' st' h) : z_J Z mlaw R k n Q 1447 ls st h := z_jr blaw_1447 blaw_1447_ok hr g
theorem dlaw_1449 : decode code 1449 = .ok (.laload, 1) := by decide +kernel
theorem ilaw_1449 {f : Nat → Int64} (hh : h r = some (a, .inl (2, N, .inr (.inl f)))) (hi : i = nI j) (hj : j < N) (hN : N < 2 ^ 31) (g : z_J Z mlaw R k n Q 1450 ls (.long (f j) :: st) h) : z_J Z mlaw R k n Q 1449 ls (.int i :: .ref a :: st) h := z_lald dlaw_1449 rfl hh hi hj hN g
def blaw_1450 : zB := [(1450, .iload 6, 1452, nI 0), (1452, .i2l, 1453, nI 0)]
theorem blaw_1450_ok : z_ok code 1450 blaw_1450 1453 = true := by decide +kernel
theorem ilaw_1450 (hr : z_run 7 blaw_1450 ls st = some (ls', st')) (g : z_J Z mlaw R k n Q 1453 ls' st' h) : z_J Z mlaw R k n Q 1450 ls st h := z_jr blaw_1450 blaw_1450_ok hr g
theorem dlaw_1453 : decode code 1453 = .ok (.lcmp, 1) := by decide +kernel
theorem ilaw_1453 {xl yl : Int64} (g : z_J Z mlaw R k n Q 1454 ls (.int (lg_cmp xl yl) :: st) h) : z_J Z mlaw R k n Q 1453 ls (.long yl :: .long xl :: st) h := z_lcmp_id dlaw_1453 rfl g
theorem dlaw_1454 : decode code 1454 = .ok (.ifCond .eq 5, 3) := by decide +kernel
theorem ilaw_1454 (kt : x = 0 → z_J Z mlaw R k n Q 1459 ls st h) (kf : ¬ x = 0 → z_J Z mlaw R k n Q 1457 ls st h) : z_J Z mlaw R k n Q 1454 ls (.int x :: st) h := z_if_eq dlaw_1454 (tgt := 1459) (by decide) rfl kt kf
def blaw_1457 : zB := [(1457, .iconst 0, 1458, nI 0)]
theorem blaw_1457_ok : z_ok code 1457 blaw_1457 1458 = true := by decide +kernel
theorem ilaw_1457 (hr : z_run 7 blaw_1457 ls st = some (ls', st')) (g : z_J Z mlaw R k n Q 1458 ls' st' h) : z_J Z mlaw R k n Q 1457 ls st h := z_jr blaw_1457 blaw_1457_ok hr g
theorem dlaw_1458 : decode code 1458 = .ok (.ireturn, 1) := by decide +kernel
theorem ilaw_1458 (hz : narrow .boolean (.int x) = .int x) (hk : k ≤ R.cells) (hs : n ≤ R.slots) (hq : Q (.inl (some (.int x))) h) : z_J Z mlaw R k n Q 1458 ls [.int x] h := z_iret (ty := .boolean) dlaw_1458 rfl hz hk hs hq
def blaw_1459 : zB := [(1459, .goto 3, 1462, nI 0)]
theorem blaw_1459_ok : z_ok code 1459 blaw_1459 1462 = true := by decide +kernel
theorem ilaw_1459 (hr : z_run 7 blaw_1459 ls st = some (ls', st')) (g : z_J Z mlaw R k n Q 1462 ls' st' h) : z_J Z mlaw R k n Q 1459 ls st h := z_jr blaw_1459 blaw_1459_ok hr g
def blaw_1462 : zB := [(1462, .iinc 4 6, 1465, nI 6), (1465, .goto (-1442), 23, nI 0)]
theorem blaw_1462_ok : z_ok code 1462 blaw_1462 23 = true := by decide +kernel
theorem ilaw_1462 (hr : z_run 7 blaw_1462 ls st = some (ls', st')) (g : z_J Z mlaw R k n Q 23 ls' st' h) : z_J Z mlaw R k n Q 1462 ls st h := z_jr blaw_1462 blaw_1462_ok hr g
def blaw_1468 : zB := [(1468, .iconst 1, 1469, nI 1)]
theorem blaw_1468_ok : z_ok code 1468 blaw_1468 1469 = true := by decide +kernel
theorem ilaw_1468 (hr : z_run 7 blaw_1468 ls st = some (ls', st')) (g : z_J Z mlaw R k n Q 1469 ls' st' h) : z_J Z mlaw R k n Q 1468 ls st h := z_jr blaw_1468 blaw_1468_ok hr g
theorem dlaw_1469 : decode code 1469 = .ok (.ireturn, 1) := by decide +kernel
theorem ilaw_1469 (hz : narrow .boolean (.int x) = .int x) (hk : k ≤ R.cells) (hs : n ≤ R.slots) (hq : Q (.inl (some (.int x))) h) : z_J Z mlaw R k n Q 1469 ls [.int x] h := z_iret (ty := .boolean) dlaw_1469 rfl hz hk hs hq
end ZL
