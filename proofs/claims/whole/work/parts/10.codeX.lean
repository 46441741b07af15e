section ZX
variable {Z : zZ} {R R' : Room} {k n : Nat} {Q Q' : zO → zH → Prop} {ls ls' st st' As rest : List Value} {h : zH} {a b r rv j N : Nat} {fs vs : List Value} {v : Value} {x y i : Int32}
/-! X0_init -/
def bX0_init_0 : zB := [(0, .aload_n 0, 1, nI 0)]
theorem bX0_init_0_ok : z_ok cX0_init 0 bX0_init_0 1 = true := by decide +kernel
theorem iX0_init_0 (hr : z_run 1 bX0_init_0 ls st = some (ls', st')) (g : z_J Z mX0_init R k n Q 1 ls' st' h) : z_J Z mX0_init R k n Q 0 ls st h := z_jr bX0_init_0 bX0_init_0_ok hr g
theorem dX0_init_1 : decode cX0_init 1 = .ok (.invokespecial 3, 3) := by decide +kernel
theorem iX0_init_1 (hst : (st.map fun v => v.category).sum + 12 ≤ R.locals) (hf : 1 ≤ R.frames) (g : z_J Z mX0_init R k n Q 4 ls st h) : z_J Z mX0_init R k n Q 1 ls (.ref a :: st) h := z_objI dX0_init_1 rfl gw128 gw60 gw_objInit hst hf g
def bX0_init_4 : zB := [(4, .aload_n 0, 5, nI 0), (5, .bipush 41, 7, nI 41), (7, .bipush 10, 9, nI 10)]
theorem bX0_init_4_ok : z_ok cX0_init 4 bX0_init_4 9 = true := by decide +kernel
theorem iX0_init_4 (hr : z_run 1 bX0_init_4 ls st = some (ls', st')) (g : z_J Z mX0_init R k n Q 9 ls' st' h) : z_J Z mX0_init R k n Q 4 ls st h := z_jr bX0_init_4 bX0_init_4_ok hr g
theorem dX0_init_9 : decode cX0_init 9 = .ok (.multianewarray 9 2, 4) := by decide +kernel
-- no row for .multianewarray 9 2 at 9
theorem dX0_init_13 : decode cX0_init 13 = .ok (.putfield 11, 3) := by decide +kernel
theorem iX0_init_13 (hh : h r = some (a, .inr (1, fs))) (hl : Nat.blt 0 fs.length = true) (g : z_J Z mX0_init R k n Q 16 ls st (z_u h r (a, .inr (1, fs.set 0 (.ref b))))) : z_J Z mX0_init R k n Q 13 ls ((.ref b) :: .ref a :: st) h := z_putF dX0_init_13 rfl fl_X0_11 fw_X0_0 rfl rfl rfl hh rfl rfl (by simpa [Nat.blt_eq] using hl) g
theorem iX0_init_13N (hh : h r = some (a, .inr (1, fs))) (hl : Nat.blt 0 fs.length = true) (g : z_J Z mX0_init R k n Q 16 ls st (z_u h r (a, .inr (1, fs.set 0 (.null))))) : z_J Z mX0_init R k n Q 13 ls ((.null) :: .ref a :: st) h := z_putF dX0_init_13 rfl fl_X0_11 fw_X0_0 rfl rfl rfl hh rfl rfl (by simpa [Nat.blt_eq] using hl) g
def bX0_init_16 : zB := [(16, .aload_n 0, 17, nI 0), (17, .bipush 41, 19, nI 41)]
theorem bX0_init_16_ok : z_ok cX0_init 16 bX0_init_16 19 = true := by decide +kernel
theorem iX0_init_16 (hr : z_run 1 bX0_init_16 ls st = some (ls', st')) (g : z_J Z mX0_init R k n Q 19 ls' st' h) : z_J Z mX0_init R k n Q 16 ls st h := z_jr bX0_init_16 bX0_init_16_ok hr g
theorem dX0_init_19 : decode cX0_init 19 = .ok (.newarray .int, 2) := by decide +kernel
theorem iX0_init_19 (r : Nat) (hi : i = nI N) (hN : N < 1000) (hR : k + 1 ≤ R.cells ∧ n + N ≤ R.slots) (g : ∀ q, z_J Z mX0_init R (k + 1) (n + N) Q 21 ls (.ref q :: st) (z_u h r (q, .inl (0, N, .inl (fun _ => 0))))) : z_J Z mX0_init R k n Q 19 ls (.int i :: st) h := z_newa r (ty := .int) (t := 0) (a0 := (N, .inl (fun _ => 0))) dX0_init_19 rfl rfl (fun _ => rfl) (fun _ q => by cases q) gw122 (fun _ => rfl) hi hN hR (by show N * 4 ≤ 536870912; omega) g
theorem dX0_init_21 : decode cX0_init 21 = .ok (.putfield 16, 3) := by decide +kernel
theorem iX0_init_21 (hh : h r = some (a, .inr (1, fs))) (hl : Nat.blt 1 fs.length = true) (g : z_J Z mX0_init R k n Q 24 ls st (z_u h r (a, .inr (1, fs.set 1 (.ref b))))) : z_J Z mX0_init R k n Q 21 ls ((.ref b) :: .ref a :: st) h := z_putF dX0_init_21 rfl fl_X0_16 fw_X0_1 rfl rfl rfl hh rfl rfl (by simpa [Nat.blt_eq] using hl) g
theorem iX0_init_21N (hh : h r = some (a, .inr (1, fs))) (hl : Nat.blt 1 fs.length = true) (g : z_J Z mX0_init R k n Q 24 ls st (z_u h r (a, .inr (1, fs.set 1 (.null))))) : z_J Z mX0_init R k n Q 21 ls ((.null) :: .ref a :: st) h := z_putF dX0_init_21 rfl fl_X0_16 fw_X0_1 rfl rfl rfl hh rfl rfl (by simpa [Nat.blt_eq] using hl) g
def bX0_init_24 : zB := [(24, .aload_n 0, 25, nI 0), (25, .bipush 10, 27, nI 10)]
theorem bX0_init_24_ok : z_ok cX0_init 24 bX0_init_24 27 = true := by decide +kernel
theorem iX0_init_24 (hr : z_run 1 bX0_init_24 ls st = some (ls', st')) (g : z_J Z mX0_init R k n Q 27 ls' st' h) : z_J Z mX0_init R k n Q 24 ls st h := z_jr bX0_init_24 bX0_init_24_ok hr g
theorem dX0_init_27 : decode cX0_init 27 = .ok (.newarray .int, 2) := by decide +kernel
theorem iX0_init_27 (r : Nat) (hi : i = nI N) (hN : N < 1000) (hR : k + 1 ≤ R.cells ∧ n + N ≤ R.slots) (g : ∀ q, z_J Z mX0_init R (k + 1) (n + N) Q 29 ls (.ref q :: st) (z_u h r (q, .inl (0, N, .inl (fun _ => 0))))) : z_J Z mX0_init R k n Q 27 ls (.int i :: st) h := z_newa r (ty := .int) (t := 0) (a0 := (N, .inl (fun _ => 0))) dX0_init_27 rfl rfl (fun _ => rfl) (fun _ q => by cases q) gw122 (fun _ => rfl) hi hN hR (by show N * 4 ≤ 536870912; omega) g
theorem dX0_init_29 : decode cX0_init 29 = .ok (.putfield 20, 3) := by decide +kernel
theorem iX0_init_29 (hh : h r = some (a, .inr (1, fs))) (hl : Nat.blt 2 fs.length = true) (g : z_J Z mX0_init R k n Q 32 ls st (z_u h r (a, .inr (1, fs.set 2 (.ref b))))) : z_J Z mX0_init R k n Q 29 ls ((.ref b) :: .ref a :: st) h := z_putF dX0_init_29 rfl fl_X0_20 fw_X0_2 rfl rfl rfl hh rfl rfl (by simpa [Nat.blt_eq] using hl) g
theorem iX0_init_29N (hh : h r = some (a, .inr (1, fs))) (hl : Nat.blt 2 fs.length = true) (g : z_J Z mX0_init R k n Q 32 ls st (z_u h r (a, .inr (1, fs.set 2 (.null))))) : z_J Z mX0_init R k n Q 29 ls ((.null) :: .ref a :: st) h := z_putF dX0_init_29 rfl fl_X0_20 fw_X0_2 rfl rfl rfl hh rfl rfl (by simpa [Nat.blt_eq] using hl) g
def bX0_init_32 : zB := [(32, .aload_n 0, 33, nI 0), (33, .bipush 10, 35, nI 10)]
theorem bX0_init_32_ok : z_ok cX0_init 32 bX0_init_32 35 = true := by decide +kernel
theorem iX0_init_32 (hr : z_run 1 bX0_init_32 ls st = some (ls', st')) (g : z_J Z mX0_init R k n Q 35 ls' st' h) : z_J Z mX0_init R k n Q 32 ls st h := z_jr bX0_init_32 bX0_init_32_ok hr g
theorem dX0_init_35 : decode cX0_init 35 = .ok (.newarray .int, 2) := by decide +kernel
theorem iX0_init_35 (r : Nat) (hi : i = nI N) (hN : N < 1000) (hR : k + 1 ≤ R.cells ∧ n + N ≤ R.slots) (g : ∀ q, z_J Z mX0_init R (k + 1) (n + N) Q 37 ls (.ref q :: st) (z_u h r (q, .inl (0, N, .inl (fun _ => 0))))) : z_J Z mX0_init R k n Q 35 ls (.int i :: st) h := z_newa r (ty := .int) (t := 0) (a0 := (N, .inl (fun _ => 0))) dX0_init_35 rfl rfl (fun _ => rfl) (fun _ q => by cases q) gw122 (fun _ => rfl) hi hN hR (by show N * 4 ≤ 536870912; omega) g
theorem dX0_init_37 : decode cX0_init 37 = .ok (.putfield 23, 3) := by decide +kernel
theorem iX0_init_37 (hh : h r = some (a, .inr (1, fs))) (hl : Nat.blt 4 fs.length = true) (g : z_J Z mX0_init R k n Q 40 ls st (z_u h r (a, .inr (1, fs.set 4 (.ref b))))) : z_J Z mX0_init R k n Q 37 ls ((.ref b) :: .ref a :: st) h := z_putF dX0_init_37 rfl fl_X0_23 fw_X0_4 rfl rfl rfl hh rfl rfl (by simpa [Nat.blt_eq] using hl) g
theorem iX0_init_37N (hh : h r = some (a, .inr (1, fs))) (hl : Nat.blt 4 fs.length = true) (g : z_J Z mX0_init R k n Q 40 ls st (z_u h r (a, .inr (1, fs.set 4 (.null))))) : z_J Z mX0_init R k n Q 37 ls ((.null) :: .ref a :: st) h := z_putF dX0_init_37 rfl fl_X0_23 fw_X0_4 rfl rfl rfl hh rfl rfl (by simpa [Nat.blt_eq] using hl) g
def bX0_init_40 : zB := [(40, .aload_n 0, 41, nI 0), (41, .bipush 10, 43, nI 10)]
theorem bX0_init_40_ok : z_ok cX0_init 40 bX0_init_40 43 = true := by decide +kernel
theorem iX0_init_40 (hr : z_run 1 bX0_init_40 ls st = some (ls', st')) (g : z_J Z mX0_init R k n Q 43 ls' st' h) : z_J Z mX0_init R k n Q 40 ls st h := z_jr bX0_init_40 bX0_init_40_ok hr g
theorem dX0_init_43 : decode cX0_init 43 = .ok (.newarray .int, 2) := by decide +kernel
theorem iX0_init_43 (r : Nat) (hi : i = nI N) (hN : N < 1000) (hR : k + 1 ≤ R.cells ∧ n + N ≤ R.slots) (g : ∀ q, z_J Z mX0_init R (k + 1) (n + N) Q 45 ls (.ref q :: st) (z_u h r (q, .inl (0, N, .inl (fun _ => 0))))) : z_J Z mX0_init R k n Q 43 ls (.int i :: st) h := z_newa r (ty := .int) (t := 0) (a0 := (N, .inl (fun _ => 0))) dX0_init_43 rfl rfl (fun _ => rfl) (fun _ q => by cases q) gw122 (fun _ => rfl) hi hN hR (by show N * 4 ≤ 536870912; omega) g
theorem dX0_init_45 : decode cX0_init 45 = .ok (.putfield 26, 3) := by decide +kernel
theorem iX0_init_45 (hh : h r = some (a, .inr (1, fs))) (hl : Nat.blt 5 fs.length = true) (g : z_J Z mX0_init R k n Q 48 ls st (z_u h r (a, .inr (1, fs.set 5 (.ref b))))) : z_J Z mX0_init R k n Q 45 ls ((.ref b) :: .ref a :: st) h := z_putF dX0_init_45 rfl fl_X0_26 fw_X0_5 rfl rfl rfl hh rfl rfl (by simpa [Nat.blt_eq] using hl) g
theorem iX0_init_45N (hh : h r = some (a, .inr (1, fs))) (hl : Nat.blt 5 fs.length = true) (g : z_J Z mX0_init R k n Q 48 ls st (z_u h r (a, .inr (1, fs.set 5 (.null))))) : z_J Z mX0_init R k n Q 45 ls ((.null) :: .ref a :: st) h := z_putF dX0_init_45 rfl fl_X0_26 fw_X0_5 rfl rfl rfl hh rfl rfl (by simpa [Nat.blt_eq] using hl) g
def bX0_init_48 : zB := [(48, .aload_n 0, 49, nI 0), (49, .bipush 10, 51, nI 10)]
theorem bX0_init_48_ok : z_ok cX0_init 48 bX0_init_48 51 = true := by decide +kernel
theorem iX0_init_48 (hr : z_run 1 bX0_init_48 ls st = some (ls', st')) (g : z_J Z mX0_init R k n Q 51 ls' st' h) : z_J Z mX0_init R k n Q 48 ls st h := z_jr bX0_init_48 bX0_init_48_ok hr g
theorem dX0_init_51 : decode cX0_init 51 = .ok (.newarray .int, 2) := by decide +kernel
theorem iX0_init_51 (r : Nat) (hi : i = nI N) (hN : N < 1000) (hR : k + 1 ≤ R.cells ∧ n + N ≤ R.slots) (g : ∀ q, z_J Z mX0_init R (k + 1) (n + N) Q 53 ls (.ref q :: st) (z_u h r (q, .inl (0, N, .inl (fun _ => 0))))) : z_J Z mX0_init R k n Q 51 ls (.int i :: st) h := z_newa r (ty := .int) (t := 0) (a0 := (N, .inl (fun _ => 0))) dX0_init_51 rfl rfl (fun _ => rfl) (fun _ q => by cases q) gw122 (fun _ => rfl) hi hN hR (by show N * 4 ≤ 536870912; omega) g
theorem dX0_init_53 : decode cX0_init 53 = .ok (.putfield 29, 3) := by decide +kernel
theorem iX0_init_53 (hh : h r = some (a, .inr (1, fs))) (hl : Nat.blt 6 fs.length = true) (g : z_J Z mX0_init R k n Q 56 ls st (z_u h r (a, .inr (1, fs.set 6 (.ref b))))) : z_J Z mX0_init R k n Q 53 ls ((.ref b) :: .ref a :: st) h := z_putF dX0_init_53 rfl fl_X0_29 fw_X0_6 rfl rfl rfl hh rfl rfl (by simpa [Nat.blt_eq] using hl) g
theorem iX0_init_53N (hh : h r = some (a, .inr (1, fs))) (hl : Nat.blt 6 fs.length = true) (g : z_J Z mX0_init R k n Q 56 ls st (z_u h r (a, .inr (1, fs.set 6 (.null))))) : z_J Z mX0_init R k n Q 53 ls ((.null) :: .ref a :: st) h := z_putF dX0_init_53 rfl fl_X0_29 fw_X0_6 rfl rfl rfl hh rfl rfl (by simpa [Nat.blt_eq] using hl) g
theorem dX0_init_56 : decode cX0_init 56 = .ok (.return_, 1) := by decide +kernel
theorem iX0_init_56 (hk : k ≤ R.cells) (hs : n ≤ R.slots) (hq : Q (.inl none) h) : z_J Z mX0_init R k n Q 56 ls [] h := z_vret dX0_init_56 rfl hk hs hq
/-! X0_start -/
def bX0_start_0 : zB := [(0, .aload_n 0, 1, nI 0), (1, .iconst 0, 2, nI 0)]
theorem bX0_start_0_ok : z_ok cX0_start 0 bX0_start_0 2 = true := by decide +kernel
theorem iX0_start_0 (hr : z_run 1 bX0_start_0 ls st = some (ls', st')) (g : z_J Z mX0_start R k n Q 2 ls' st' h) : z_J Z mX0_start R k n Q 0 ls st h := z_jr bX0_start_0 bX0_start_0_ok hr g
theorem dX0_start_2 : decode cX0_start 2 = .ok (.putfield 32, 3) := by decide +kernel
theorem iX0_start_2 (hh : h r = some (a, .inr (1, fs))) (hl : Nat.blt 3 fs.length = true) (g : z_J Z mX0_start R k n Q 5 ls st (z_u h r (a, .inr (1, fs.set 3 (.int x))))) : z_J Z mX0_start R k n Q 2 ls ((.int x) :: .ref a :: st) h := z_put dX0_start_2 rfl fl_X0_32 fw_X0_3 rfl hh rfl rfl (by simpa [Nat.blt_eq] using hl) g
theorem dX0_start_5 : decode cX0_start 5 = .ok (.return_, 1) := by decide +kernel
theorem iX0_start_5 (hk : k ≤ R.cells) (hs : n ≤ R.slots) (hq : Q (.inl none) h) : z_J Z mX0_start R k n Q 5 ls [] h := z_vret dX0_start_5 rfl hk hs hq
/-! X0_putUnits -/
def bX0_putUnits_0 : zB := [(0, .iload_n 1, 1, nI 0)]
theorem bX0_putUnits_0_ok : z_ok cX0_putUnits 0 bX0_putUnits_0 1 = true := by decide +kernel
theorem iX0_putUnits_0 (hr : z_run 3 bX0_putUnits_0 ls st = some (ls', st')) (g : z_J Z mX0_putUnits R k n Q 1 ls' st' h) : z_J Z mX0_putUnits R k n Q 0 ls st h := z_jr bX0_putUnits_0 bX0_putUnits_0_ok hr g
theorem dX0_putUnits_1 : decode cX0_putUnits 1 = .ok (.invokestatic 36, 3) := by decide +kernel
theorem iX0_putUnits_1 (ha : z_args 1 st [] = some (As, rest)) (hc : z_chk rest As 1 = true) (hR : z_rm R R' 1 k n) (gc : z_J Z mX0_isRight R' 0 0 Q' 0 As [] h) (kr : ∀ (v : Option Value) (h' : zH), Q' (.inl v) h' → z_J Z mX0_putUnits R (k + R'.cells) (n + R'.slots) Q 4 ls (v.toList ++ rest) h') (kx : ∀ (E : String) (h' : zH), Q' (.inr E) h' → z_JX Z mX0_putUnits R (k + R'.cells) (n + R'.slots) Q 1 ls E h') : z_J Z mX0_putUnits R k n Q 1 ls st h := z_callS (M' := mX0_isRight) dX0_putUnits_1 rfl cs_X0_36 gw641 ha hR (z_chk1 hc) (z_chk2 hc) (z_chk3 hc) gc kr kx
theorem dX0_putUnits_4 : decode cX0_putUnits 4 = .ok (.ifCond .eq 10, 3) := by decide +kernel
theorem iX0_putUnits_4 (kt : x = 0 → z_J Z mX0_putUnits R k n Q 14 ls st h) (kf : ¬ x = 0 → z_J Z mX0_putUnits R k n Q 7 ls st h) : z_J Z mX0_putUnits R k n Q 4 ls (.int x :: st) h := z_if_eq dX0_putUnits_4 (tgt := 14) (by decide) rfl kt kf
def bX0_putUnits_7 : zB := [(7, .aload_n 0, 8, nI 0)]
theorem bX0_putUnits_7_ok : z_ok cX0_putUnits 7 bX0_putUnits_7 8 = true := by decide +kernel
theorem iX0_putUnits_7 (hr : z_run 3 bX0_putUnits_7 ls st = some (ls', st')) (g : z_J Z mX0_putUnits R k n Q 8 ls' st' h) : z_J Z mX0_putUnits R k n Q 7 ls st h := z_jr bX0_putUnits_7 bX0_putUnits_7_ok hr g
theorem dX0_putUnits_8 : decode cX0_putUnits 8 = .ok (.getfield 20, 3) := by decide +kernel
theorem iX0_putUnits_8 (hh : h r = some (a, .inr (1, fs))) (hv : fs[2]? = some v) (g : z_J Z mX0_putUnits R k n Q 11 ls (v :: st) h) : z_J Z mX0_putUnits R k n Q 8 ls (.ref a :: st) h := z_get dX0_putUnits_8 rfl fl_X0_20 hh hv g
def bX0_putUnits_11 : zB := [(11, .iload_n 1, 12, nI 0), (12, .iload_n 2, 13, nI 0)]
theorem bX0_putUnits_11_ok : z_ok cX0_putUnits 11 bX0_putUnits_11 13 = true := by decide +kernel
theorem iX0_putUnits_11 (hr : z_run 3 bX0_putUnits_11 ls st = some (ls', st')) (g : z_J Z mX0_putUnits R k n Q 13 ls' st' h) : z_J Z mX0_putUnits R k n Q 11 ls st h := z_jr bX0_putUnits_11 bX0_putUnits_11_ok hr g
theorem dX0_putUnits_13 : decode cX0_putUnits 13 = .ok (.iastore, 1) := by decide +kernel
theorem iX0_putUnits_13 {f : Nat → Int32} (hh : h r = some (a, .inl (0, N, .inl f))) (hi : i = nI j) (hj : j < N) (hN : N < 2 ^ 31) (g : z_J Z mX0_putUnits R k n Q 14 ls st (z_u h r (a, .inl (0, N, .inl (upd f j x))))) : z_J Z mX0_putUnits R k n Q 13 ls (.int x :: .int i :: .ref a :: st) h := z_iast dX0_putUnits_13 rfl hh hi hj hN g
theorem dX0_putUnits_14 : decode cX0_putUnits 14 = .ok (.return_, 1) := by decide +kernel
theorem iX0_putUnits_14 (hk : k ≤ R.cells) (hs : n ≤ R.slots) (hq : Q (.inl none) h) : z_J Z mX0_putUnits R k n Q 14 ls [] h := z_vret dX0_putUnits_14 rfl hk hs hq
/-! X0_serve -/
def bX0_serve_0 : zB := [(0, .aload_n 0, 1, nI 0)]
theorem bX0_serve_0_ok : z_ok cX0_serve 0 bX0_serve_0 1 = true := by decide +kernel
theorem iX0_serve_0 (hr : z_run 7 bX0_serve_0 ls st = some (ls', st')) (g : z_J Z mX0_serve R k n Q 1 ls' st' h) : z_J Z mX0_serve R k n Q 0 ls st h := z_jr bX0_serve_0 bX0_serve_0_ok hr g
theorem dX0_serve_1 : decode cX0_serve 1 = .ok (.getfield 32, 3) := by decide +kernel
theorem iX0_serve_1 (hh : h r = some (a, .inr (1, fs))) (hv : fs[3]? = some v) (g : z_J Z mX0_serve R k n Q 4 ls (v :: st) h) : z_J Z mX0_serve R k n Q 1 ls (.ref a :: st) h := z_get dX0_serve_1 rfl fl_X0_32 hh hv g
def bX0_serve_4 : zB := [(4, .aload_n 0, 5, nI 0)]
theorem bX0_serve_4_ok : z_ok cX0_serve 4 bX0_serve_4 5 = true := by decide +kernel
theorem iX0_serve_4 (hr : z_run 7 bX0_serve_4 ls st = some (ls', st')) (g : z_J Z mX0_serve R k n Q 5 ls' st' h) : z_J Z mX0_serve R k n Q 4 ls st h := z_jr bX0_serve_4 bX0_serve_4_ok hr g
theorem dX0_serve_5 : decode cX0_serve 5 = .ok (.getfield 16, 3) := by decide +kernel
theorem iX0_serve_5 (hh : h r = some (a, .inr (1, fs))) (hv : fs[1]? = some v) (g : z_J Z mX0_serve R k n Q 8 ls (v :: st) h) : z_J Z mX0_serve R k n Q 5 ls (.ref a :: st) h := z_get dX0_serve_5 rfl fl_X0_16 hh hv g
theorem dX0_serve_8 : decode cX0_serve 8 = .ok (.arraylength, 1) := by decide +kernel
theorem iX0_serve_8 {t : Nat} {x : vp_A} (hh : h r = some (a, .inl (t, x))) (ht : t < 6) (g : z_J Z mX0_serve R k n Q 9 ls (.int (nI x.1) :: st) h) : z_J Z mX0_serve R k n Q 8 ls (.ref a :: st) h := z_alen (ty := 0) dX0_serve_8 rfl hh ht g
theorem iX0_serve_8t (g : z_J Z mX0_serve R k n Q 9 ls (.int (nI 0) :: st) h) : z_J Z mX0_serve R k n Q 8 ls (.ref Z.2.2.2 :: st) h := z_tlen dX0_serve_8 rfl g
theorem dX0_serve_9 : decode cX0_serve 9 = .ok (.if_icmp .lt 5, 3) := by decide +kernel
theorem iX0_serve_9 (kt : x < y → z_J Z mX0_serve R k n Q 14 ls st h) (kf : ¬ x < y → z_J Z mX0_serve R k n Q 12 ls st h) : z_J Z mX0_serve R k n Q 9 ls (.int y :: .int x :: st) h := z_ic_lt dX0_serve_9 (tgt := 14) (by decide) rfl kt kf
def bX0_serve_12 : zB := [(12, .iconst 0, 13, nI 0)]
theorem bX0_serve_12_ok : z_ok cX0_serve 12 bX0_serve_12 13 = true := by decide +kernel
theorem iX0_serve_12 (hr : z_run 7 bX0_serve_12 ls st = some (ls', st')) (g : z_J Z mX0_serve R k n Q 13 ls' st' h) : z_J Z mX0_serve R k n Q 12 ls st h := z_jr bX0_serve_12 bX0_serve_12_ok hr g
theorem dX0_serve_13 : decode cX0_serve 13 = .ok (.ireturn, 1) := by decide +kernel
theorem iX0_serve_13 (hk : k ≤ R.cells) (hs : n ≤ R.slots) (hq : Q (.inl (some (.int x))) h) : z_J Z mX0_serve R k n Q 13 ls [.int x] h := z_iret (ty := .int) dX0_serve_13 rfl rfl hk hs hq
def bX0_serve_14 : zB := [(14, .aload_n 0, 15, nI 0)]
theorem bX0_serve_14_ok : z_ok cX0_serve 14 bX0_serve_14 15 = true := by decide +kernel
theorem iX0_serve_14 (hr : z_run 7 bX0_serve_14 ls st = some (ls', st')) (g : z_J Z mX0_serve R k n Q 15 ls' st' h) : z_J Z mX0_serve R k n Q 14 ls st h := z_jr bX0_serve_14 bX0_serve_14_ok hr g
theorem dX0_serve_15 : decode cX0_serve 15 = .ok (.getfield 32, 3) := by decide +kernel
theorem iX0_serve_15 (hh : h r = some (a, .inr (1, fs))) (hv : fs[3]? = some v) (g : z_J Z mX0_serve R k n Q 18 ls (v :: st) h) : z_J Z mX0_serve R k n Q 15 ls (.ref a :: st) h := z_get dX0_serve_15 rfl fl_X0_32 hh hv g
def bX0_serve_18 : zB := [(18, .istore_n 3, 19, nI 0), (19, .aload_n 0, 20, nI 0), (20, .dup, 21, nI 0)]
theorem bX0_serve_18_ok : z_ok cX0_serve 18 bX0_serve_18 21 = true := by decide +kernel
theorem iX0_serve_18 (hr : z_run 7 bX0_serve_18 ls st = some (ls', st')) (g : z_J Z mX0_serve R k n Q 21 ls' st' h) : z_J Z mX0_serve R k n Q 18 ls st h := z_jr bX0_serve_18 bX0_serve_18_ok hr g
theorem dX0_serve_21 : decode cX0_serve 21 = .ok (.getfield 32, 3) := by decide +kernel
theorem iX0_serve_21 (hh : h r = some (a, .inr (1, fs))) (hv : fs[3]? = some v) (g : z_J Z mX0_serve R k n Q 24 ls (v :: st) h) : z_J Z mX0_serve R k n Q 21 ls (.ref a :: st) h := z_get dX0_serve_21 rfl fl_X0_32 hh hv g
def bX0_serve_24 : zB := [(24, .iconst 1, 25, nI 1), (25, .iadd, 26, nI 0)]
theorem bX0_serve_24_ok : z_ok cX0_serve 24 bX0_serve_24 26 = true := by decide +kernel
theorem iX0_serve_24 (hr : z_run 7 bX0_serve_24 ls st = some (ls', st')) (g : z_J Z mX0_serve R k n Q 26 ls' st' h) : z_J Z mX0_serve R k n Q 24 ls st h := z_jr bX0_serve_24 bX0_serve_24_ok hr g
theorem dX0_serve_26 : decode cX0_serve 26 = .ok (.putfield 32, 3) := by decide +kernel
theorem iX0_serve_26 (hh : h r = some (a, .inr (1, fs))) (hl : Nat.blt 3 fs.length = true) (g : z_J Z mX0_serve R k n Q 29 ls st (z_u h r (a, .inr (1, fs.set 3 (.int x))))) : z_J Z mX0_serve R k n Q 26 ls ((.int x) :: .ref a :: st) h := z_put dX0_serve_26 rfl fl_X0_32 fw_X0_3 rfl hh rfl rfl (by simpa [Nat.blt_eq] using hl) g
def bX0_serve_29 : zB := [(29, .aload_n 0, 30, nI 0)]
theorem bX0_serve_29_ok : z_ok cX0_serve 29 bX0_serve_29 30 = true := by decide +kernel
theorem iX0_serve_29 (hr : z_run 7 bX0_serve_29 ls st = some (ls', st')) (g : z_J Z mX0_serve R k n Q 30 ls' st' h) : z_J Z mX0_serve R k n Q 29 ls st h := z_jr bX0_serve_29 bX0_serve_29_ok hr g
theorem dX0_serve_30 : decode cX0_serve 30 = .ok (.getfield 16, 3) := by decide +kernel
theorem iX0_serve_30 (hh : h r = some (a, .inr (1, fs))) (hv : fs[1]? = some v) (g : z_J Z mX0_serve R k n Q 33 ls (v :: st) h) : z_J Z mX0_serve R k n Q 30 ls (.ref a :: st) h := z_get dX0_serve_30 rfl fl_X0_16 hh hv g
def bX0_serve_33 : zB := [(33, .iload_n 3, 34, nI 0), (34, .iload_n 1, 35, nI 0)]
theorem bX0_serve_33_ok : z_ok cX0_serve 33 bX0_serve_33 35 = true := by decide +kernel
theorem iX0_serve_33 (hr : z_run 7 bX0_serve_33 ls st = some (ls', st')) (g : z_J Z mX0_serve R k n Q 35 ls' st' h) : z_J Z mX0_serve R k n Q 33 ls st h := z_jr bX0_serve_33 bX0_serve_33_ok hr g
theorem dX0_serve_35 : decode cX0_serve 35 = .ok (.iastore, 1) := by decide +kernel
theorem iX0_serve_35 {f : Nat → Int32} (hh : h r = some (a, .inl (0, N, .inl f))) (hi : i = nI j) (hj : j < N) (hN : N < 2 ^ 31) (g : z_J Z mX0_serve R k n Q 36 ls st (z_u h r (a, .inl (0, N, .inl (upd f j x))))) : z_J Z mX0_serve R k n Q 35 ls (.int x :: .int i :: .ref a :: st) h := z_iast dX0_serve_35 rfl hh hi hj hN g
def bX0_serve_36 : zB := [(36, .aload_n 0, 37, nI 0)]
theorem bX0_serve_36_ok : z_ok cX0_serve 36 bX0_serve_36 37 = true := by decide +kernel
theorem iX0_serve_36 (hr : z_run 7 bX0_serve_36 ls st = some (ls', st')) (g : z_J Z mX0_serve R k n Q 37 ls' st' h) : z_J Z mX0_serve R k n Q 36 ls st h := z_jr bX0_serve_36 bX0_serve_36_ok hr g
theorem dX0_serve_37 : decode cX0_serve 37 = .ok (.getfield 11, 3) := by decide +kernel
theorem iX0_serve_37 (hh : h r = some (a, .inr (1, fs))) (hv : fs[0]? = some v) (g : z_J Z mX0_serve R k n Q 40 ls (v :: st) h) : z_J Z mX0_serve R k n Q 37 ls (.ref a :: st) h := z_get dX0_serve_37 rfl fl_X0_11 hh hv g
def bX0_serve_40 : zB := [(40, .iload_n 3, 41, nI 0)]
theorem bX0_serve_40_ok : z_ok cX0_serve 40 bX0_serve_40 41 = true := by decide +kernel
theorem iX0_serve_40 (hr : z_run 7 bX0_serve_40 ls st = some (ls', st')) (g : z_J Z mX0_serve R k n Q 41 ls' st' h) : z_J Z mX0_serve R k n Q 40 ls st h := z_jr bX0_serve_40 bX0_serve_40_ok hr g
theorem dX0_serve_41 : decode cX0_serve 41 = .ok (.aaload, 1) := by decide +kernel
theorem iX0_serve_41 {f : Nat → Option Nat} (hh : h r = some (a, .inl (3, N, .inr (.inr (.inr (.inr f)))))) (hi : i = nI j) (hj : j < N) (hN : N < 2 ^ 31) (g : z_J Z mX0_serve R k n Q 42 ls (va_rf (f j) :: st) h) : z_J Z mX0_serve R k n Q 41 ls (.int i :: .ref a :: st) h := z_aald3 dX0_serve_41 rfl hh hi hj hN g
def bX0_serve_42 : zB := [(42, .iconst 0, 43, nI 0)]
theorem bX0_serve_42_ok : z_ok cX0_serve 42 bX0_serve_42 43 = true := by decide +kernel
theorem iX0_serve_42 (hr : z_run 7 bX0_serve_42 ls st = some (ls', st')) (g : z_J Z mX0_serve R k n Q 43 ls' st' h) : z_J Z mX0_serve R k n Q 42 ls st h := z_jr bX0_serve_42 bX0_serve_42_ok hr g
theorem dX0_serve_43 : decode cX0_serve 43 = .ok (.invokestatic 40, 3) := by decide +kernel
theorem iX0_serve_43 (ha : z_args 2 st [] = some (As, rest)) (hc : z_chk rest As 4 = true) (hR : z_rm R R' 4 k n) (gc : z_J Z mJ7_fill_53178 R' 0 0 Q' 0 As [] h) (kr : ∀ (v : Option Value) (h' : zH), Q' (.inl v) h' → z_J Z mX0_serve R (k + R'.cells) (n + R'.slots) Q 46 ls (v.toList ++ rest) h') (kx : ∀ (E : String) (h' : zH), Q' (.inr E) h' → z_JX Z mX0_serve R (k + R'.cells) (n + R'.slots) Q 43 ls E h') : z_J Z mX0_serve R k n Q 43 ls st h := z_callS (M' := mJ7_fill_53178) dX0_serve_43 rfl cs_X0_40 gw160 ha hR (z_chk1 hc) (z_chk2 hc) (z_chk3 hc) gc kr kx
def bX0_serve_46 : zB := [(46, .iconst 0, 47, nI 0), (47, .istore 4, 49, nI 0), (49, .iconst 0, 50, nI 0), (50, .istore 5, 52, nI 0)]
theorem bX0_serve_46_ok : z_ok cX0_serve 46 bX0_serve_46 52 = true := by decide +kernel
theorem iX0_serve_46 (hr : z_run 7 bX0_serve_46 ls st = some (ls', st')) (g : z_J Z mX0_serve R k n Q 52 ls' st' h) : z_J Z mX0_serve R k n Q 46 ls st h := z_jr bX0_serve_46 bX0_serve_46_ok hr g
def bX0_serve_52 : zB := [(52, .iload 5, 54, nI 0), (54, .iload_n 2, 55, nI 0)]
theorem bX0_serve_52_ok : z_ok cX0_serve 52 bX0_serve_52 55 = true := by decide +kernel
theorem iX0_serve_52 (hr : z_run 7 bX0_serve_52 ls st = some (ls', st')) (g : z_J Z mX0_serve R k n Q 55 ls' st' h) : z_J Z mX0_serve R k n Q 52 ls st h := z_jr bX0_serve_52 bX0_serve_52_ok hr g
theorem dX0_serve_55 : decode cX0_serve 55 = .ok (.if_icmp .ge 47, 3) := by decide +kernel
theorem iX0_serve_55 (kt : y ≤ x → z_J Z mX0_serve R k n Q 102 ls st h) (kf : ¬ y ≤ x → z_J Z mX0_serve R k n Q 58 ls st h) : z_J Z mX0_serve R k n Q 55 ls (.int y :: .int x :: st) h := z_ic_ge dX0_serve_55 (tgt := 102) (by decide) rfl kt kf
def bX0_serve_58 : zB := [(58, .iload 4, 60, nI 0), (60, .iload_n 2, 61, nI 0)]
theorem bX0_serve_58_ok : z_ok cX0_serve 58 bX0_serve_58 61 = true := by decide +kernel
theorem iX0_serve_58 (hr : z_run 7 bX0_serve_58 ls st = some (ls', st')) (g : z_J Z mX0_serve R k n Q 61 ls' st' h) : z_J Z mX0_serve R k n Q 58 ls st h := z_jr bX0_serve_58 bX0_serve_58_ok hr g
theorem dX0_serve_61 : decode cX0_serve 61 = .ok (.if_icmp .ge 41, 3) := by decide +kernel
theorem iX0_serve_61 (kt : y ≤ x → z_J Z mX0_serve R k n Q 102 ls st h) (kf : ¬ y ≤ x → z_J Z mX0_serve R k n Q 64 ls st h) : z_J Z mX0_serve R k n Q 61 ls (.int y :: .int x :: st) h := z_ic_ge dX0_serve_61 (tgt := 102) (by decide) rfl kt kf
def bX0_serve_64 : zB := [(64, .aload_n 0, 65, nI 0), (65, .iload_n 3, 66, nI 0)]
theorem bX0_serve_64_ok : z_ok cX0_serve 64 bX0_serve_64 66 = true := by decide +kernel
theorem iX0_serve_64 (hr : z_run 7 bX0_serve_64 ls st = some (ls', st')) (g : z_J Z mX0_serve R k n Q 66 ls' st' h) : z_J Z mX0_serve R k n Q 64 ls st h := z_jr bX0_serve_64 bX0_serve_64_ok hr g
theorem dX0_serve_66 : decode cX0_serve 66 = .ok (.invokevirtual 46, 3) := by decide +kernel
theorem iX0_serve_66 (ha : z_args 1 st [] = some (As, .ref b :: rest)) (hc : z_chk rest (.ref b :: As) 5 = true) (hh : h r = some (b, .inr (1, fs))) (hR : z_rm R R' 5 k n) (gc : z_J Z mX0_searchUnitsLeft R' 0 0 Q' 0 (.ref b :: As) [] h) (kr : ∀ (v : Option Value) (h' : zH), Q' (.inl v) h' → z_J Z mX0_serve R (k + R'.cells) (n + R'.slots) Q 69 ls (v.toList ++ rest) h') (kx : ∀ (E : String) (h' : zH), Q' (.inr E) h' → z_JX Z mX0_serve R (k + R'.cells) (n + R'.slots) Q 66 ls E h') : z_J Z mX0_serve R k n Q 66 ls st h := z_callV (M' := mX0_searchUnitsLeft) dX0_serve_66 rfl cs_X0_46 rfl gw650 gwp12 ha hh (ci := 1) rfl hR (z_chk1 hc) (z_chk2 hc) (z_chk3 hc) gc kr kx
def bX0_serve_69 : zB := [(69, .istore 6, 71, nI 0), (71, .iload 6, 73, nI 0), (73, .iconst (-1), 74, -1)]
theorem bX0_serve_69_ok : z_ok cX0_serve 69 bX0_serve_69 74 = true := by decide +kernel
theorem iX0_serve_69 (hr : z_run 7 bX0_serve_69 ls st = some (ls', st')) (g : z_J Z mX0_serve R k n Q 74 ls' st' h) : z_J Z mX0_serve R k n Q 69 ls st h := z_jr bX0_serve_69 bX0_serve_69_ok hr g
theorem dX0_serve_74 : decode cX0_serve 74 = .ok (.if_icmp .ne 6, 3) := by decide +kernel
theorem iX0_serve_74 (kt : ¬ x = y → z_J Z mX0_serve R k n Q 80 ls st h) (kf : x = y → z_J Z mX0_serve R k n Q 77 ls st h) : z_J Z mX0_serve R k n Q 74 ls (.int y :: .int x :: st) h := z_ic_ne dX0_serve_74 (tgt := 80) (by decide) rfl kt kf
def bX0_serve_77 : zB := [(77, .goto 25, 102, nI 0)]
theorem bX0_serve_77_ok : z_ok cX0_serve 77 bX0_serve_77 102 = true := by decide +kernel
theorem iX0_serve_77 (hr : z_run 7 bX0_serve_77 ls st = some (ls', st')) (g : z_J Z mX0_serve R k n Q 102 ls' st' h) : z_J Z mX0_serve R k n Q 77 ls st h := z_jr bX0_serve_77 bX0_serve_77_ok hr g
def bX0_serve_80 : zB := [(80, .iload 4, 82, nI 0), (82, .aload_n 0, 83, nI 0), (83, .iload_n 3, 84, nI 0), (84, .iload 6, 86, nI 0), (86, .iload_n 2, 87, nI 0), (87, .iload 4, 89, nI 0), (89, .isub, 90, nI 0)]
theorem bX0_serve_80_ok : z_ok cX0_serve 80 bX0_serve_80 90 = true := by decide +kernel
theorem iX0_serve_80 (hr : z_run 7 bX0_serve_80 ls st = some (ls', st')) (g : z_J Z mX0_serve R k n Q 90 ls' st' h) : z_J Z mX0_serve R k n Q 80 ls st h := z_jr bX0_serve_80 bX0_serve_80_ok hr g
theorem dX0_serve_90 : decode cX0_serve 90 = .ok (.invokevirtual 50, 3) := by decide +kernel
theorem iX0_serve_90 (ha : z_args 3 st [] = some (As, .ref b :: rest)) (hc : z_chk rest (.ref b :: As) 7 = true) (hh : h r = some (b, .inr (1, fs))) (hR : z_rm R R' 7 k n) (gc : z_J Z mX0_giveAlong R' 0 0 Q' 0 (.ref b :: As) [] h) (kr : ∀ (v : Option Value) (h' : zH), Q' (.inl v) h' → z_J Z mX0_serve R (k + R'.cells) (n + R'.slots) Q 93 ls (v.toList ++ rest) h') (kx : ∀ (E : String) (h' : zH), Q' (.inr E) h' → z_JX Z mX0_serve R (k + R'.cells) (n + R'.slots) Q 90 ls E h') : z_J Z mX0_serve R k n Q 90 ls st h := z_callV (M' := mX0_giveAlong) dX0_serve_90 rfl cs_X0_50 rfl gw658 gwp14 ha hh (ci := 1) rfl hR (z_chk1 hc) (z_chk2 hc) (z_chk3 hc) gc kr kx
def bX0_serve_93 : zB := [(93, .iadd, 94, nI 0), (94, .istore 4, 96, nI 0), (96, .iinc 5 1, 99, nI 1), (99, .goto (-47), 52, nI 0)]
theorem bX0_serve_93_ok : z_ok cX0_serve 93 bX0_serve_93 52 = true := by decide +kernel
theorem iX0_serve_93 (hr : z_run 7 bX0_serve_93 ls st = some (ls', st')) (g : z_J Z mX0_serve R k n Q 52 ls' st' h) : z_J Z mX0_serve R k n Q 93 ls st h := z_jr bX0_serve_93 bX0_serve_93_ok hr g
def bX0_serve_102 : zB := [(102, .iload 4, 104, nI 0)]
theorem bX0_serve_102_ok : z_ok cX0_serve 102 bX0_serve_102 104 = true := by decide +kernel
theorem iX0_serve_102 (hr : z_run 7 bX0_serve_102 ls st = some (ls', st')) (g : z_J Z mX0_serve R k n Q 104 ls' st' h) : z_J Z mX0_serve R k n Q 102 ls st h := z_jr bX0_serve_102 bX0_serve_102_ok hr g
theorem dX0_serve_104 : decode cX0_serve 104 = .ok (.ireturn, 1) := by decide +kernel
theorem iX0_serve_104 (hk : k ≤ R.cells) (hs : n ≤ R.slots) (hq : Q (.inl (some (.int x))) h) : z_J Z mX0_serve R k n Q 104 ls [.int x] h := z_iret (ty := .int) dX0_serve_104 rfl rfl hk hs hq
/-! X0_searchUnitsLeft -/
def bX0_searchUnitsLeft_0 : zB := [(0, .aload_n 0, 1, nI 0), (1, .iconst 0, 2, nI 0)]
theorem bX0_searchUnitsLeft_0_ok : z_ok cX0_searchUnitsLeft 0 bX0_searchUnitsLeft_0 2 = true := by decide +kernel
theorem iX0_searchUnitsLeft_0 (hr : z_run 5 bX0_searchUnitsLeft_0 ls st = some (ls', st')) (g : z_J Z mX0_searchUnitsLeft R k n Q 2 ls' st' h) : z_J Z mX0_searchUnitsLeft R k n Q 0 ls st h := z_jr bX0_searchUnitsLeft_0 bX0_searchUnitsLeft_0_ok hr g
theorem dX0_searchUnitsLeft_2 : decode cX0_searchUnitsLeft 2 = .ok (.putfield 54, 3) := by decide +kernel
theorem iX0_searchUnitsLeft_2 (hh : h r = some (a, .inr (1, fs))) (hl : Nat.blt 7 fs.length = true) (g : z_J Z mX0_searchUnitsLeft R k n Q 5 ls st (z_u h r (a, .inr (1, fs.set 7 (.int x))))) : z_J Z mX0_searchUnitsLeft R k n Q 2 ls ((.int x) :: .ref a :: st) h := z_put dX0_searchUnitsLeft_2 rfl fl_X0_54 fw_X0_7 rfl hh rfl rfl (by simpa [Nat.blt_eq] using hl) g
def bX0_searchUnitsLeft_5 : zB := [(5, .aload_n 0, 6, nI 0), (6, .iconst 0, 7, nI 0)]
theorem bX0_searchUnitsLeft_5_ok : z_ok cX0_searchUnitsLeft 5 bX0_searchUnitsLeft_5 7 = true := by decide +kernel
theorem iX0_searchUnitsLeft_5 (hr : z_run 5 bX0_searchUnitsLeft_5 ls st = some (ls', st')) (g : z_J Z mX0_searchUnitsLeft R k n Q 7 ls' st' h) : z_J Z mX0_searchUnitsLeft R k n Q 5 ls st h := z_jr bX0_searchUnitsLeft_5 bX0_searchUnitsLeft_5_ok hr g
theorem dX0_searchUnitsLeft_7 : decode cX0_searchUnitsLeft 7 = .ok (.putfield 57, 3) := by decide +kernel
theorem iX0_searchUnitsLeft_7 (hh : h r = some (a, .inr (1, fs))) (hl : Nat.blt 8 fs.length = true) (g : z_J Z mX0_searchUnitsLeft R k n Q 10 ls st (z_u h r (a, .inr (1, fs.set 8 (.int x))))) : z_J Z mX0_searchUnitsLeft R k n Q 7 ls ((.int x) :: .ref a :: st) h := z_put dX0_searchUnitsLeft_7 rfl fl_X0_57 fw_X0_8 rfl hh rfl rfl (by simpa [Nat.blt_eq] using hl) g
def bX0_searchUnitsLeft_10 : zB := [(10, .aload_n 0, 11, nI 0), (11, .aload_n 0, 12, nI 0)]
theorem bX0_searchUnitsLeft_10_ok : z_ok cX0_searchUnitsLeft 10 bX0_searchUnitsLeft_10 12 = true := by decide +kernel
theorem iX0_searchUnitsLeft_10 (hr : z_run 5 bX0_searchUnitsLeft_10 ls st = some (ls', st')) (g : z_J Z mX0_searchUnitsLeft R k n Q 12 ls' st' h) : z_J Z mX0_searchUnitsLeft R k n Q 10 ls st h := z_jr bX0_searchUnitsLeft_10 bX0_searchUnitsLeft_10_ok hr g
theorem dX0_searchUnitsLeft_12 : decode cX0_searchUnitsLeft 12 = .ok (.getfield 16, 3) := by decide +kernel
theorem iX0_searchUnitsLeft_12 (hh : h r = some (a, .inr (1, fs))) (hv : fs[1]? = some v) (g : z_J Z mX0_searchUnitsLeft R k n Q 15 ls (v :: st) h) : z_J Z mX0_searchUnitsLeft R k n Q 12 ls (.ref a :: st) h := z_get dX0_searchUnitsLeft_12 rfl fl_X0_16 hh hv g
def bX0_searchUnitsLeft_15 : zB := [(15, .iload_n 1, 16, nI 0)]
theorem bX0_searchUnitsLeft_15_ok : z_ok cX0_searchUnitsLeft 15 bX0_searchUnitsLeft_15 16 = true := by decide +kernel
theorem iX0_searchUnitsLeft_15 (hr : z_run 5 bX0_searchUnitsLeft_15 ls st = some (ls', st')) (g : z_J Z mX0_searchUnitsLeft R k n Q 16 ls' st' h) : z_J Z mX0_searchUnitsLeft R k n Q 15 ls st h := z_jr bX0_searchUnitsLeft_15 bX0_searchUnitsLeft_15_ok hr g
theorem dX0_searchUnitsLeft_16 : decode cX0_searchUnitsLeft 16 = .ok (.iaload, 1) := by decide +kernel
theorem iX0_searchUnitsLeft_16 {f : Nat → Int32} (hh : h r = some (a, .inl (0, N, .inl f))) (hi : i = nI j) (hj : j < N) (hN : N < 2 ^ 31) (g : z_J Z mX0_searchUnitsLeft R k n Q 17 ls (.int (f j) :: st) h) : z_J Z mX0_searchUnitsLeft R k n Q 16 ls (.int i :: .ref a :: st) h := z_iald dX0_searchUnitsLeft_16 rfl hh hi hj hN g
def bX0_searchUnitsLeft_17 : zB := [(17, .iconst (-1), 18, -1), (18, .iload_n 1, 19, nI 0)]
theorem bX0_searchUnitsLeft_17_ok : z_ok cX0_searchUnitsLeft 17 bX0_searchUnitsLeft_17 19 = true := by decide +kernel
theorem iX0_searchUnitsLeft_17 (hr : z_run 5 bX0_searchUnitsLeft_17 ls st = some (ls', st')) (g : z_J Z mX0_searchUnitsLeft R k n Q 19 ls' st' h) : z_J Z mX0_searchUnitsLeft R k n Q 17 ls st h := z_jr bX0_searchUnitsLeft_17 bX0_searchUnitsLeft_17_ok hr g
theorem dX0_searchUnitsLeft_19 : decode cX0_searchUnitsLeft 19 = .ok (.invokevirtual 60, 3) := by decide +kernel
theorem iX0_searchUnitsLeft_19 (ha : z_args 3 st [] = some (As, .ref b :: rest)) (hc : z_chk rest (.ref b :: As) 5 = true) (hh : h r = some (b, .inr (1, fs))) (hR : z_rm R R' 5 k n) (gc : z_J Z mX0_reach R' 0 0 Q' 0 (.ref b :: As) [] h) (kr : ∀ (v : Option Value) (h' : zH), Q' (.inl v) h' → z_J Z mX0_searchUnitsLeft R (k + R'.cells) (n + R'.slots) Q 22 ls (v.toList ++ rest) h') (kx : ∀ (E : String) (h' : zH), Q' (.inr E) h' → z_JX Z mX0_searchUnitsLeft R (k + R'.cells) (n + R'.slots) Q 19 ls E h') : z_J Z mX0_searchUnitsLeft R k n Q 19 ls st h := z_callV (M' := mX0_reach) dX0_searchUnitsLeft_19 rfl cs_X0_60 rfl gw654 gwp13 ha hh (ci := 1) rfl hR (z_chk1 hc) (z_chk2 hc) (z_chk3 hc) gc kr kx
def bX0_searchUnitsLeft_22 : zB := [(22, .iconst 0, 23, nI 0), (23, .istore_n 2, 24, nI 0)]
theorem bX0_searchUnitsLeft_22_ok : z_ok cX0_searchUnitsLeft 22 bX0_searchUnitsLeft_22 24 = true := by decide +kernel
theorem iX0_searchUnitsLeft_22 (hr : z_run 5 bX0_searchUnitsLeft_22 ls st = some (ls', st')) (g : z_J Z mX0_searchUnitsLeft R k n Q 24 ls' st' h) : z_J Z mX0_searchUnitsLeft R k n Q 22 ls st h := z_jr bX0_searchUnitsLeft_22 bX0_searchUnitsLeft_22_ok hr g
def bX0_searchUnitsLeft_24 : zB := [(24, .iload_n 2, 25, nI 0), (25, .aload_n 0, 26, nI 0)]
theorem bX0_searchUnitsLeft_24_ok : z_ok cX0_searchUnitsLeft 24 bX0_searchUnitsLeft_24 26 = true := by decide +kernel
theorem iX0_searchUnitsLeft_24 (hr : z_run 5 bX0_searchUnitsLeft_24 ls st = some (ls', st')) (g : z_J Z mX0_searchUnitsLeft R k n Q 26 ls' st' h) : z_J Z mX0_searchUnitsLeft R k n Q 24 ls st h := z_jr bX0_searchUnitsLeft_24 bX0_searchUnitsLeft_24_ok hr g
theorem dX0_searchUnitsLeft_26 : decode cX0_searchUnitsLeft 26 = .ok (.getfield 54, 3) := by decide +kernel
theorem iX0_searchUnitsLeft_26 (hh : h r = some (a, .inr (1, fs))) (hv : fs[7]? = some v) (g : z_J Z mX0_searchUnitsLeft R k n Q 29 ls (v :: st) h) : z_J Z mX0_searchUnitsLeft R k n Q 26 ls (.ref a :: st) h := z_get dX0_searchUnitsLeft_26 rfl fl_X0_54 hh hv g
theorem dX0_searchUnitsLeft_29 : decode cX0_searchUnitsLeft 29 = .ok (.if_icmp .ge 83, 3) := by decide +kernel
theorem iX0_searchUnitsLeft_29 (kt : y ≤ x → z_J Z mX0_searchUnitsLeft R k n Q 112 ls st h) (kf : ¬ y ≤ x → z_J Z mX0_searchUnitsLeft R k n Q 32 ls st h) : z_J Z mX0_searchUnitsLeft R k n Q 29 ls (.int y :: .int x :: st) h := z_ic_ge dX0_searchUnitsLeft_29 (tgt := 112) (by decide) rfl kt kf
def bX0_searchUnitsLeft_32 : zB := [(32, .iload_n 2, 33, nI 0), (33, .bipush 10, 35, nI 10)]
theorem bX0_searchUnitsLeft_32_ok : z_ok cX0_searchUnitsLeft 32 bX0_searchUnitsLeft_32 35 = true := by decide +kernel
theorem iX0_searchUnitsLeft_32 (hr : z_run 5 bX0_searchUnitsLeft_32 ls st = some (ls', st')) (g : z_J Z mX0_searchUnitsLeft R k n Q 35 ls' st' h) : z_J Z mX0_searchUnitsLeft R k n Q 32 ls st h := z_jr bX0_searchUnitsLeft_32 bX0_searchUnitsLeft_32_ok hr g
theorem dX0_searchUnitsLeft_35 : decode cX0_searchUnitsLeft 35 = .ok (.if_icmp .ge 77, 3) := by decide +kernel
theorem iX0_searchUnitsLeft_35 (kt : y ≤ x → z_J Z mX0_searchUnitsLeft R k n Q 112 ls st h) (kf : ¬ y ≤ x → z_J Z mX0_searchUnitsLeft R k n Q 38 ls st h) : z_J Z mX0_searchUnitsLeft R k n Q 35 ls (.int y :: .int x :: st) h := z_ic_ge dX0_searchUnitsLeft_35 (tgt := 112) (by decide) rfl kt kf
def bX0_searchUnitsLeft_38 : zB := [(38, .aload_n 0, 39, nI 0)]
theorem bX0_searchUnitsLeft_38_ok : z_ok cX0_searchUnitsLeft 38 bX0_searchUnitsLeft_38 39 = true := by decide +kernel
theorem iX0_searchUnitsLeft_38 (hr : z_run 5 bX0_searchUnitsLeft_38 ls st = some (ls', st')) (g : z_J Z mX0_searchUnitsLeft R k n Q 39 ls' st' h) : z_J Z mX0_searchUnitsLeft R k n Q 38 ls st h := z_jr bX0_searchUnitsLeft_38 bX0_searchUnitsLeft_38_ok hr g
theorem dX0_searchUnitsLeft_39 : decode cX0_searchUnitsLeft 39 = .ok (.getfield 23, 3) := by decide +kernel
theorem iX0_searchUnitsLeft_39 (hh : h r = some (a, .inr (1, fs))) (hv : fs[4]? = some v) (g : z_J Z mX0_searchUnitsLeft R k n Q 42 ls (v :: st) h) : z_J Z mX0_searchUnitsLeft R k n Q 39 ls (.ref a :: st) h := z_get dX0_searchUnitsLeft_39 rfl fl_X0_23 hh hv g
def bX0_searchUnitsLeft_42 : zB := [(42, .iload_n 2, 43, nI 0)]
theorem bX0_searchUnitsLeft_42_ok : z_ok cX0_searchUnitsLeft 42 bX0_searchUnitsLeft_42 43 = true := by decide +kernel
theorem iX0_searchUnitsLeft_42 (hr : z_run 5 bX0_searchUnitsLeft_42 ls st = some (ls', st')) (g : z_J Z mX0_searchUnitsLeft R k n Q 43 ls' st' h) : z_J Z mX0_searchUnitsLeft R k n Q 42 ls st h := z_jr bX0_searchUnitsLeft_42 bX0_searchUnitsLeft_42_ok hr g
theorem dX0_searchUnitsLeft_43 : decode cX0_searchUnitsLeft 43 = .ok (.iaload, 1) := by decide +kernel
theorem iX0_searchUnitsLeft_43 {f : Nat → Int32} (hh : h r = some (a, .inl (0, N, .inl f))) (hi : i = nI j) (hj : j < N) (hN : N < 2 ^ 31) (g : z_J Z mX0_searchUnitsLeft R k n Q 44 ls (.int (f j) :: st) h) : z_J Z mX0_searchUnitsLeft R k n Q 43 ls (.int i :: .ref a :: st) h := z_iald dX0_searchUnitsLeft_43 rfl hh hi hj hN g
def bX0_searchUnitsLeft_44 : zB := [(44, .istore_n 3, 45, nI 0), (45, .iload_n 3, 46, nI 0)]
theorem bX0_searchUnitsLeft_44_ok : z_ok cX0_searchUnitsLeft 44 bX0_searchUnitsLeft_44 46 = true := by decide +kernel
theorem iX0_searchUnitsLeft_44 (hr : z_run 5 bX0_searchUnitsLeft_44 ls st = some (ls', st')) (g : z_J Z mX0_searchUnitsLeft R k n Q 46 ls' st' h) : z_J Z mX0_searchUnitsLeft R k n Q 44 ls st h := z_jr bX0_searchUnitsLeft_44 bX0_searchUnitsLeft_44_ok hr g
theorem dX0_searchUnitsLeft_46 : decode cX0_searchUnitsLeft 46 = .ok (.invokestatic 36, 3) := by decide +kernel
theorem iX0_searchUnitsLeft_46 (ha : z_args 1 st [] = some (As, rest)) (hc : z_chk rest As 1 = true) (hR : z_rm R R' 1 k n) (gc : z_J Z mX0_isRight R' 0 0 Q' 0 As [] h) (kr : ∀ (v : Option Value) (h' : zH), Q' (.inl v) h' → z_J Z mX0_searchUnitsLeft R (k + R'.cells) (n + R'.slots) Q 49 ls (v.toList ++ rest) h') (kx : ∀ (E : String) (h' : zH), Q' (.inr E) h' → z_JX Z mX0_searchUnitsLeft R (k + R'.cells) (n + R'.slots) Q 46 ls E h') : z_J Z mX0_searchUnitsLeft R k n Q 46 ls st h := z_callS (M' := mX0_isRight) dX0_searchUnitsLeft_46 rfl cs_X0_36 gw641 ha hR (z_chk1 hc) (z_chk2 hc) (z_chk3 hc) gc kr kx
theorem dX0_searchUnitsLeft_49 : decode cX0_searchUnitsLeft 49 = .ok (.ifCond .ne 5, 3) := by decide +kernel
theorem iX0_searchUnitsLeft_49 (kt : ¬ x = 0 → z_J Z mX0_searchUnitsLeft R k n Q 54 ls st h) (kf : x = 0 → z_J Z mX0_searchUnitsLeft R k n Q 52 ls st h) : z_J Z mX0_searchUnitsLeft R k n Q 49 ls (.int x :: st) h := z_if_ne dX0_searchUnitsLeft_49 (tgt := 54) (by decide) rfl kt kf
def bX0_searchUnitsLeft_52 : zB := [(52, .iconst (-1), 53, -1)]
theorem bX0_searchUnitsLeft_52_ok : z_ok cX0_searchUnitsLeft 52 bX0_searchUnitsLeft_52 53 = true := by decide +kernel
theorem iX0_searchUnitsLeft_52 (hr : z_run 5 bX0_searchUnitsLeft_52 ls st = some (ls', st')) (g : z_J Z mX0_searchUnitsLeft R k n Q 53 ls' st' h) : z_J Z mX0_searchUnitsLeft R k n Q 52 ls st h := z_jr bX0_searchUnitsLeft_52 bX0_searchUnitsLeft_52_ok hr g
theorem dX0_searchUnitsLeft_53 : decode cX0_searchUnitsLeft 53 = .ok (.ireturn, 1) := by decide +kernel
theorem iX0_searchUnitsLeft_53 (hk : k ≤ R.cells) (hs : n ≤ R.slots) (hq : Q (.inl (some (.int x))) h) : z_J Z mX0_searchUnitsLeft R k n Q 53 ls [.int x] h := z_iret (ty := .int) dX0_searchUnitsLeft_53 rfl rfl hk hs hq
def bX0_searchUnitsLeft_54 : zB := [(54, .aload_n 0, 55, nI 0)]
theorem bX0_searchUnitsLeft_54_ok : z_ok cX0_searchUnitsLeft 54 bX0_searchUnitsLeft_54 55 = true := by decide +kernel
theorem iX0_searchUnitsLeft_54 (hr : z_run 5 bX0_searchUnitsLeft_54 ls st = some (ls', st')) (g : z_J Z mX0_searchUnitsLeft R k n Q 55 ls' st' h) : z_J Z mX0_searchUnitsLeft R k n Q 54 ls st h := z_jr bX0_searchUnitsLeft_54 bX0_searchUnitsLeft_54_ok hr g
theorem dX0_searchUnitsLeft_55 : decode cX0_searchUnitsLeft 55 = .ok (.getfield 20, 3) := by decide +kernel
theorem iX0_searchUnitsLeft_55 (hh : h r = some (a, .inr (1, fs))) (hv : fs[2]? = some v) (g : z_J Z mX0_searchUnitsLeft R k n Q 58 ls (v :: st) h) : z_J Z mX0_searchUnitsLeft R k n Q 55 ls (.ref a :: st) h := z_get dX0_searchUnitsLeft_55 rfl fl_X0_20 hh hv g
def bX0_searchUnitsLeft_58 : zB := [(58, .iload_n 3, 59, nI 0)]
theorem bX0_searchUnitsLeft_58_ok : z_ok cX0_searchUnitsLeft 58 bX0_searchUnitsLeft_58 59 = true := by decide +kernel
theorem iX0_searchUnitsLeft_58 (hr : z_run 5 bX0_searchUnitsLeft_58 ls st = some (ls', st')) (g : z_J Z mX0_searchUnitsLeft R k n Q 59 ls' st' h) : z_J Z mX0_searchUnitsLeft R k n Q 58 ls st h := z_jr bX0_searchUnitsLeft_58 bX0_searchUnitsLeft_58_ok hr g
theorem dX0_searchUnitsLeft_59 : decode cX0_searchUnitsLeft 59 = .ok (.iaload, 1) := by decide +kernel
theorem iX0_searchUnitsLeft_59 {f : Nat → Int32} (hh : h r = some (a, .inl (0, N, .inl f))) (hi : i = nI j) (hj : j < N) (hN : N < 2 ^ 31) (g : z_J Z mX0_searchUnitsLeft R k n Q 60 ls (.int (f j) :: st) h) : z_J Z mX0_searchUnitsLeft R k n Q 59 ls (.int i :: .ref a :: st) h := z_iald dX0_searchUnitsLeft_59 rfl hh hi hj hN g
theorem dX0_searchUnitsLeft_60 : decode cX0_searchUnitsLeft 60 = .ok (.ifCond .le 5, 3) := by decide +kernel
theorem iX0_searchUnitsLeft_60 (kt : x ≤ 0 → z_J Z mX0_searchUnitsLeft R k n Q 65 ls st h) (kf : ¬ x ≤ 0 → z_J Z mX0_searchUnitsLeft R k n Q 63 ls st h) : z_J Z mX0_searchUnitsLeft R k n Q 60 ls (.int x :: st) h := z_if_le dX0_searchUnitsLeft_60 (tgt := 65) (by decide) rfl kt kf
def bX0_searchUnitsLeft_63 : zB := [(63, .iload_n 3, 64, nI 0)]
theorem bX0_searchUnitsLeft_63_ok : z_ok cX0_searchUnitsLeft 63 bX0_searchUnitsLeft_63 64 = true := by decide +kernel
theorem iX0_searchUnitsLeft_63 (hr : z_run 5 bX0_searchUnitsLeft_63 ls st = some (ls', st')) (g : z_J Z mX0_searchUnitsLeft R k n Q 64 ls' st' h) : z_J Z mX0_searchUnitsLeft R k n Q 63 ls st h := z_jr bX0_searchUnitsLeft_63 bX0_searchUnitsLeft_63_ok hr g
theorem dX0_searchUnitsLeft_64 : decode cX0_searchUnitsLeft 64 = .ok (.ireturn, 1) := by decide +kernel
theorem iX0_searchUnitsLeft_64 (hk : k ≤ R.cells) (hs : n ≤ R.slots) (hq : Q (.inl (some (.int x))) h) : z_J Z mX0_searchUnitsLeft R k n Q 64 ls [.int x] h := z_iret (ty := .int) dX0_searchUnitsLeft_64 rfl rfl hk hs hq
def bX0_searchUnitsLeft_65 : zB := [(65, .iconst 0, 66, nI 0), (66, .istore 4, 68, nI 0)]
theorem bX0_searchUnitsLeft_65_ok : z_ok cX0_searchUnitsLeft 65 bX0_searchUnitsLeft_65 68 = true := by decide +kernel
theorem iX0_searchUnitsLeft_65 (hr : z_run 5 bX0_searchUnitsLeft_65 ls st = some (ls', st')) (g : z_J Z mX0_searchUnitsLeft R k n Q 68 ls' st' h) : z_J Z mX0_searchUnitsLeft R k n Q 65 ls st h := z_jr bX0_searchUnitsLeft_65 bX0_searchUnitsLeft_65_ok hr g
def bX0_searchUnitsLeft_68 : zB := [(68, .iload 4, 70, nI 0), (70, .iload_n 1, 71, nI 0)]
theorem bX0_searchUnitsLeft_68_ok : z_ok cX0_searchUnitsLeft 68 bX0_searchUnitsLeft_68 71 = true := by decide +kernel
theorem iX0_searchUnitsLeft_68 (hr : z_run 5 bX0_searchUnitsLeft_68 ls st = some (ls', st')) (g : z_J Z mX0_searchUnitsLeft R k n Q 71 ls' st' h) : z_J Z mX0_searchUnitsLeft R k n Q 68 ls st h := z_jr bX0_searchUnitsLeft_68 bX0_searchUnitsLeft_68_ok hr g
theorem dX0_searchUnitsLeft_71 : decode cX0_searchUnitsLeft 71 = .ok (.if_icmp .ge 35, 3) := by decide +kernel
theorem iX0_searchUnitsLeft_71 (kt : y ≤ x → z_J Z mX0_searchUnitsLeft R k n Q 106 ls st h) (kf : ¬ y ≤ x → z_J Z mX0_searchUnitsLeft R k n Q 74 ls st h) : z_J Z mX0_searchUnitsLeft R k n Q 71 ls (.int y :: .int x :: st) h := z_ic_ge dX0_searchUnitsLeft_71 (tgt := 106) (by decide) rfl kt kf
def bX0_searchUnitsLeft_74 : zB := [(74, .aload_n 0, 75, nI 0)]
theorem bX0_searchUnitsLeft_74_ok : z_ok cX0_searchUnitsLeft 74 bX0_searchUnitsLeft_74 75 = true := by decide +kernel
theorem iX0_searchUnitsLeft_74 (hr : z_run 5 bX0_searchUnitsLeft_74 ls st = some (ls', st')) (g : z_J Z mX0_searchUnitsLeft R k n Q 75 ls' st' h) : z_J Z mX0_searchUnitsLeft R k n Q 74 ls st h := z_jr bX0_searchUnitsLeft_74 bX0_searchUnitsLeft_74_ok hr g
theorem dX0_searchUnitsLeft_75 : decode cX0_searchUnitsLeft 75 = .ok (.getfield 11, 3) := by decide +kernel
theorem iX0_searchUnitsLeft_75 (hh : h r = some (a, .inr (1, fs))) (hv : fs[0]? = some v) (g : z_J Z mX0_searchUnitsLeft R k n Q 78 ls (v :: st) h) : z_J Z mX0_searchUnitsLeft R k n Q 75 ls (.ref a :: st) h := z_get dX0_searchUnitsLeft_75 rfl fl_X0_11 hh hv g
def bX0_searchUnitsLeft_78 : zB := [(78, .iload 4, 80, nI 0)]
theorem bX0_searchUnitsLeft_78_ok : z_ok cX0_searchUnitsLeft 78 bX0_searchUnitsLeft_78 80 = true := by decide +kernel
theorem iX0_searchUnitsLeft_78 (hr : z_run 5 bX0_searchUnitsLeft_78 ls st = some (ls', st')) (g : z_J Z mX0_searchUnitsLeft R k n Q 80 ls' st' h) : z_J Z mX0_searchUnitsLeft R k n Q 78 ls st h := z_jr bX0_searchUnitsLeft_78 bX0_searchUnitsLeft_78_ok hr g
theorem dX0_searchUnitsLeft_80 : decode cX0_searchUnitsLeft 80 = .ok (.aaload, 1) := by decide +kernel
theorem iX0_searchUnitsLeft_80 {f : Nat → Option Nat} (hh : h r = some (a, .inl (3, N, .inr (.inr (.inr (.inr f)))))) (hi : i = nI j) (hj : j < N) (hN : N < 2 ^ 31) (g : z_J Z mX0_searchUnitsLeft R k n Q 81 ls (va_rf (f j) :: st) h) : z_J Z mX0_searchUnitsLeft R k n Q 80 ls (.int i :: .ref a :: st) h := z_aald3 dX0_searchUnitsLeft_80 rfl hh hi hj hN g
def bX0_searchUnitsLeft_81 : zB := [(81, .iload_n 3, 82, nI 0)]
theorem bX0_searchUnitsLeft_81_ok : z_ok cX0_searchUnitsLeft 81 bX0_searchUnitsLeft_81 82 = true := by decide +kernel
theorem iX0_searchUnitsLeft_81 (hr : z_run 5 bX0_searchUnitsLeft_81 ls st = some (ls', st')) (g : z_J Z mX0_searchUnitsLeft R k n Q 82 ls' st' h) : z_J Z mX0_searchUnitsLeft R k n Q 81 ls st h := z_jr bX0_searchUnitsLeft_81 bX0_searchUnitsLeft_81_ok hr g
theorem dX0_searchUnitsLeft_82 : decode cX0_searchUnitsLeft 82 = .ok (.iaload, 1) := by decide +kernel
theorem iX0_searchUnitsLeft_82 {f : Nat → Int32} (hh : h r = some (a, .inl (0, N, .inl f))) (hi : i = nI j) (hj : j < N) (hN : N < 2 ^ 31) (g : z_J Z mX0_searchUnitsLeft R k n Q 83 ls (.int (f j) :: st) h) : z_J Z mX0_searchUnitsLeft R k n Q 82 ls (.int i :: .ref a :: st) h := z_iald dX0_searchUnitsLeft_82 rfl hh hi hj hN g
theorem dX0_searchUnitsLeft_83 : decode cX0_searchUnitsLeft 83 = .ok (.ifCond .le 17, 3) := by decide +kernel
theorem iX0_searchUnitsLeft_83 (kt : x ≤ 0 → z_J Z mX0_searchUnitsLeft R k n Q 100 ls st h) (kf : ¬ x ≤ 0 → z_J Z mX0_searchUnitsLeft R k n Q 86 ls st h) : z_J Z mX0_searchUnitsLeft R k n Q 83 ls (.int x :: st) h := z_if_le dX0_searchUnitsLeft_83 (tgt := 100) (by decide) rfl kt kf
def bX0_searchUnitsLeft_86 : zB := [(86, .aload_n 0, 87, nI 0), (87, .aload_n 0, 88, nI 0)]
theorem bX0_searchUnitsLeft_86_ok : z_ok cX0_searchUnitsLeft 86 bX0_searchUnitsLeft_86 88 = true := by decide +kernel
theorem iX0_searchUnitsLeft_86 (hr : z_run 5 bX0_searchUnitsLeft_86 ls st = some (ls', st')) (g : z_J Z mX0_searchUnitsLeft R k n Q 88 ls' st' h) : z_J Z mX0_searchUnitsLeft R k n Q 86 ls st h := z_jr bX0_searchUnitsLeft_86 bX0_searchUnitsLeft_86_ok hr g
theorem dX0_searchUnitsLeft_88 : decode cX0_searchUnitsLeft 88 = .ok (.getfield 16, 3) := by decide +kernel
theorem iX0_searchUnitsLeft_88 (hh : h r = some (a, .inr (1, fs))) (hv : fs[1]? = some v) (g : z_J Z mX0_searchUnitsLeft R k n Q 91 ls (v :: st) h) : z_J Z mX0_searchUnitsLeft R k n Q 88 ls (.ref a :: st) h := z_get dX0_searchUnitsLeft_88 rfl fl_X0_16 hh hv g
def bX0_searchUnitsLeft_91 : zB := [(91, .iload 4, 93, nI 0)]
theorem bX0_searchUnitsLeft_91_ok : z_ok cX0_searchUnitsLeft 91 bX0_searchUnitsLeft_91 93 = true := by decide +kernel
theorem iX0_searchUnitsLeft_91 (hr : z_run 5 bX0_searchUnitsLeft_91 ls st = some (ls', st')) (g : z_J Z mX0_searchUnitsLeft R k n Q 93 ls' st' h) : z_J Z mX0_searchUnitsLeft R k n Q 91 ls st h := z_jr bX0_searchUnitsLeft_91 bX0_searchUnitsLeft_91_ok hr g
theorem dX0_searchUnitsLeft_93 : decode cX0_searchUnitsLeft 93 = .ok (.iaload, 1) := by decide +kernel
theorem iX0_searchUnitsLeft_93 {f : Nat → Int32} (hh : h r = some (a, .inl (0, N, .inl f))) (hi : i = nI j) (hj : j < N) (hN : N < 2 ^ 31) (g : z_J Z mX0_searchUnitsLeft R k n Q 94 ls (.int (f j) :: st) h) : z_J Z mX0_searchUnitsLeft R k n Q 93 ls (.int i :: .ref a :: st) h := z_iald dX0_searchUnitsLeft_93 rfl hh hi hj hN g
def bX0_searchUnitsLeft_94 : zB := [(94, .iload_n 3, 95, nI 0), (95, .iload 4, 97, nI 0)]
theorem bX0_searchUnitsLeft_94_ok : z_ok cX0_searchUnitsLeft 94 bX0_searchUnitsLeft_94 97 = true := by decide +kernel
theorem iX0_searchUnitsLeft_94 (hr : z_run 5 bX0_searchUnitsLeft_94 ls st = some (ls', st')) (g : z_J Z mX0_searchUnitsLeft R k n Q 97 ls' st' h) : z_J Z mX0_searchUnitsLeft R k n Q 94 ls st h := z_jr bX0_searchUnitsLeft_94 bX0_searchUnitsLeft_94_ok hr g
theorem dX0_searchUnitsLeft_97 : decode cX0_searchUnitsLeft 97 = .ok (.invokevirtual 60, 3) := by decide +kernel
theorem iX0_searchUnitsLeft_97 (ha : z_args 3 st [] = some (As, .ref b :: rest)) (hc : z_chk rest (.ref b :: As) 5 = true) (hh : h r = some (b, .inr (1, fs))) (hR : z_rm R R' 5 k n) (gc : z_J Z mX0_reach R' 0 0 Q' 0 (.ref b :: As) [] h) (kr : ∀ (v : Option Value) (h' : zH), Q' (.inl v) h' → z_J Z mX0_searchUnitsLeft R (k + R'.cells) (n + R'.slots) Q 100 ls (v.toList ++ rest) h') (kx : ∀ (E : String) (h' : zH), Q' (.inr E) h' → z_JX Z mX0_searchUnitsLeft R (k + R'.cells) (n + R'.slots) Q 97 ls E h') : z_J Z mX0_searchUnitsLeft R k n Q 97 ls st h := z_callV (M' := mX0_reach) dX0_searchUnitsLeft_97 rfl cs_X0_60 rfl gw654 gwp13 ha hh (ci := 1) rfl hR (z_chk1 hc) (z_chk2 hc) (z_chk3 hc) gc kr kx
def bX0_searchUnitsLeft_100 : zB := [(100, .iinc 4 1, 103, nI 1), (103, .goto (-35), 68, nI 0)]
theorem bX0_searchUnitsLeft_100_ok : z_ok cX0_searchUnitsLeft 100 bX0_searchUnitsLeft_100 68 = true := by decide +kernel
theorem iX0_searchUnitsLeft_100 (hr : z_run 5 bX0_searchUnitsLeft_100 ls st = some (ls', st')) (g : z_J Z mX0_searchUnitsLeft R k n Q 68 ls' st' h) : z_J Z mX0_searchUnitsLeft R k n Q 100 ls st h := z_jr bX0_searchUnitsLeft_100 bX0_searchUnitsLeft_100_ok hr g
def bX0_searchUnitsLeft_106 : zB := [(106, .iinc 2 1, 109, nI 1), (109, .goto (-85), 24, nI 0)]
theorem bX0_searchUnitsLeft_106_ok : z_ok cX0_searchUnitsLeft 106 bX0_searchUnitsLeft_106 24 = true := by decide +kernel
theorem iX0_searchUnitsLeft_106 (hr : z_run 5 bX0_searchUnitsLeft_106 ls st = some (ls', st')) (g : z_J Z mX0_searchUnitsLeft R k n Q 24 ls' st' h) : z_J Z mX0_searchUnitsLeft R k n Q 106 ls st h := z_jr bX0_searchUnitsLeft_106 bX0_searchUnitsLeft_106_ok hr g
def bX0_searchUnitsLeft_112 : zB := [(112, .iconst (-1), 113, -1)]
theorem bX0_searchUnitsLeft_112_ok : z_ok cX0_searchUnitsLeft 112 bX0_searchUnitsLeft_112 113 = true := by decide +kernel
theorem iX0_searchUnitsLeft_112 (hr : z_run 5 bX0_searchUnitsLeft_112 ls st = some (ls', st')) (g : z_J Z mX0_searchUnitsLeft R k n Q 113 ls' st' h) : z_J Z mX0_searchUnitsLeft R k n Q 112 ls st h := z_jr bX0_searchUnitsLeft_112 bX0_searchUnitsLeft_112_ok hr g
theorem dX0_searchUnitsLeft_113 : decode cX0_searchUnitsLeft 113 = .ok (.ireturn, 1) := by decide +kernel
theorem iX0_searchUnitsLeft_113 (hk : k ≤ R.cells) (hs : n ≤ R.slots) (hq : Q (.inl (some (.int x))) h) : z_J Z mX0_searchUnitsLeft R k n Q 113 ls [.int x] h := z_iret (ty := .int) dX0_searchUnitsLeft_113 rfl rfl hk hs hq
/-! X0_reach -/
def bX0_reach_0 : zB := [(0, .iconst 0, 1, nI 0), (1, .istore 4, 3, nI 0)]
theorem bX0_reach_0_ok : z_ok cX0_reach 0 bX0_reach_0 3 = true := by decide +kernel
theorem iX0_reach_0 (hr : z_run 5 bX0_reach_0 ls st = some (ls', st')) (g : z_J Z mX0_reach R k n Q 3 ls' st' h) : z_J Z mX0_reach R k n Q 0 ls st h := z_jr bX0_reach_0 bX0_reach_0_ok hr g
def bX0_reach_3 : zB := [(3, .iload 4, 5, nI 0), (5, .bipush 10, 7, nI 10)]
theorem bX0_reach_3_ok : z_ok cX0_reach 3 bX0_reach_3 7 = true := by decide +kernel
theorem iX0_reach_3 (hr : z_run 5 bX0_reach_3 ls st = some (ls', st')) (g : z_J Z mX0_reach R k n Q 7 ls' st' h) : z_J Z mX0_reach R k n Q 3 ls st h := z_jr bX0_reach_3 bX0_reach_3_ok hr g
theorem dX0_reach_7 : decode cX0_reach 7 = .ok (.if_icmp .ge 84, 3) := by decide +kernel
theorem iX0_reach_7 (kt : y ≤ x → z_J Z mX0_reach R k n Q 91 ls st h) (kf : ¬ y ≤ x → z_J Z mX0_reach R k n Q 10 ls st h) : z_J Z mX0_reach R k n Q 7 ls (.int y :: .int x :: st) h := z_ic_ge dX0_reach_7 (tgt := 91) (by decide) rfl kt kf
def bX0_reach_10 : zB := [(10, .aload_n 0, 11, nI 0)]
theorem bX0_reach_10_ok : z_ok cX0_reach 10 bX0_reach_10 11 = true := by decide +kernel
theorem iX0_reach_10 (hr : z_run 5 bX0_reach_10 ls st = some (ls', st')) (g : z_J Z mX0_reach R k n Q 11 ls' st' h) : z_J Z mX0_reach R k n Q 10 ls st h := z_jr bX0_reach_10 bX0_reach_10_ok hr g
theorem dX0_reach_11 : decode cX0_reach 11 = .ok (.getfield 54, 3) := by decide +kernel
theorem iX0_reach_11 (hh : h r = some (a, .inr (1, fs))) (hv : fs[7]? = some v) (g : z_J Z mX0_reach R k n Q 14 ls (v :: st) h) : z_J Z mX0_reach R k n Q 11 ls (.ref a :: st) h := z_get dX0_reach_11 rfl fl_X0_54 hh hv g
def bX0_reach_14 : zB := [(14, .bipush 10, 16, nI 10)]
theorem bX0_reach_14_ok : z_ok cX0_reach 14 bX0_reach_14 16 = true := by decide +kernel
theorem iX0_reach_14 (hr : z_run 5 bX0_reach_14 ls st = some (ls', st')) (g : z_J Z mX0_reach R k n Q 16 ls' st' h) : z_J Z mX0_reach R k n Q 14 ls st h := z_jr bX0_reach_14 bX0_reach_14_ok hr g
theorem dX0_reach_16 : decode cX0_reach 16 = .ok (.if_icmp .ge 75, 3) := by decide +kernel
theorem iX0_reach_16 (kt : y ≤ x → z_J Z mX0_reach R k n Q 91 ls st h) (kf : ¬ y ≤ x → z_J Z mX0_reach R k n Q 19 ls st h) : z_J Z mX0_reach R k n Q 16 ls (.int y :: .int x :: st) h := z_ic_ge dX0_reach_16 (tgt := 91) (by decide) rfl kt kf
def bX0_reach_19 : zB := [(19, .iload_n 1, 20, nI 0), (20, .aload_n 0, 21, nI 0)]
theorem bX0_reach_19_ok : z_ok cX0_reach 19 bX0_reach_19 21 = true := by decide +kernel
theorem iX0_reach_19 (hr : z_run 5 bX0_reach_19 ls st = some (ls', st')) (g : z_J Z mX0_reach R k n Q 21 ls' st' h) : z_J Z mX0_reach R k n Q 19 ls st h := z_jr bX0_reach_19 bX0_reach_19_ok hr g
theorem dX0_reach_21 : decode cX0_reach 21 = .ok (.getfield 57, 3) := by decide +kernel
theorem iX0_reach_21 (hh : h r = some (a, .inr (1, fs))) (hv : fs[8]? = some v) (g : z_J Z mX0_reach R k n Q 24 ls (v :: st) h) : z_J Z mX0_reach R k n Q 21 ls (.ref a :: st) h := z_get dX0_reach_21 rfl fl_X0_57 hh hv g
def bX0_reach_24 : zB := [(24, .iconst (-1), 25, -1), (25, .ixor, 26, nI 0), (26, .iand, 27, nI 0), (27, .iload 4, 29, nI 0), (29, .ishr, 30, nI 0), (30, .iconst 1, 31, nI 1), (31, .iand, 32, nI 0)]
theorem bX0_reach_24_ok : z_ok cX0_reach 24 bX0_reach_24 32 = true := by decide +kernel
theorem iX0_reach_24 (hr : z_run 5 bX0_reach_24 ls st = some (ls', st')) (g : z_J Z mX0_reach R k n Q 32 ls' st' h) : z_J Z mX0_reach R k n Q 24 ls st h := z_jr bX0_reach_24 bX0_reach_24_ok hr g
theorem dX0_reach_32 : decode cX0_reach 32 = .ok (.ifCond .eq 53, 3) := by decide +kernel
theorem iX0_reach_32 (kt : x = 0 → z_J Z mX0_reach R k n Q 85 ls st h) (kf : ¬ x = 0 → z_J Z mX0_reach R k n Q 35 ls st h) : z_J Z mX0_reach R k n Q 32 ls (.int x :: st) h := z_if_eq dX0_reach_32 (tgt := 85) (by decide) rfl kt kf
def bX0_reach_35 : zB := [(35, .aload_n 0, 36, nI 0), (36, .dup, 37, nI 0)]
theorem bX0_reach_35_ok : z_ok cX0_reach 35 bX0_reach_35 37 = true := by decide +kernel
theorem iX0_reach_35 (hr : z_run 5 bX0_reach_35 ls st = some (ls', st')) (g : z_J Z mX0_reach R k n Q 37 ls' st' h) : z_J Z mX0_reach R k n Q 35 ls st h := z_jr bX0_reach_35 bX0_reach_35_ok hr g
theorem dX0_reach_37 : decode cX0_reach 37 = .ok (.getfield 57, 3) := by decide +kernel
theorem iX0_reach_37 (hh : h r = some (a, .inr (1, fs))) (hv : fs[8]? = some v) (g : z_J Z mX0_reach R k n Q 40 ls (v :: st) h) : z_J Z mX0_reach R k n Q 37 ls (.ref a :: st) h := z_get dX0_reach_37 rfl fl_X0_57 hh hv g
def bX0_reach_40 : zB := [(40, .iconst 1, 41, nI 1), (41, .iload 4, 43, nI 0), (43, .ishl, 44, nI 0), (44, .ior, 45, nI 0)]
theorem bX0_reach_40_ok : z_ok cX0_reach 40 bX0_reach_40 45 = true := by decide +kernel
theorem iX0_reach_40 (hr : z_run 5 bX0_reach_40 ls st = some (ls', st')) (g : z_J Z mX0_reach R k n Q 45 ls' st' h) : z_J Z mX0_reach R k n Q 40 ls st h := z_jr bX0_reach_40 bX0_reach_40_ok hr g
theorem dX0_reach_45 : decode cX0_reach 45 = .ok (.putfield 57, 3) := by decide +kernel
theorem iX0_reach_45 (hh : h r = some (a, .inr (1, fs))) (hl : Nat.blt 8 fs.length = true) (g : z_J Z mX0_reach R k n Q 48 ls st (z_u h r (a, .inr (1, fs.set 8 (.int x))))) : z_J Z mX0_reach R k n Q 45 ls ((.int x) :: .ref a :: st) h := z_put dX0_reach_45 rfl fl_X0_57 fw_X0_8 rfl hh rfl rfl (by simpa [Nat.blt_eq] using hl) g
def bX0_reach_48 : zB := [(48, .aload_n 0, 49, nI 0)]
theorem bX0_reach_48_ok : z_ok cX0_reach 48 bX0_reach_48 49 = true := by decide +kernel
theorem iX0_reach_48 (hr : z_run 5 bX0_reach_48 ls st = some (ls', st')) (g : z_J Z mX0_reach R k n Q 49 ls' st' h) : z_J Z mX0_reach R k n Q 48 ls st h := z_jr bX0_reach_48 bX0_reach_48_ok hr g
theorem dX0_reach_49 : decode cX0_reach 49 = .ok (.getfield 26, 3) := by decide +kernel
theorem iX0_reach_49 (hh : h r = some (a, .inr (1, fs))) (hv : fs[5]? = some v) (g : z_J Z mX0_reach R k n Q 52 ls (v :: st) h) : z_J Z mX0_reach R k n Q 49 ls (.ref a :: st) h := z_get dX0_reach_49 rfl fl_X0_26 hh hv g
def bX0_reach_52 : zB := [(52, .iload 4, 54, nI 0), (54, .iload_n 2, 55, nI 0)]
theorem bX0_reach_52_ok : z_ok cX0_reach 52 bX0_reach_52 55 = true := by decide +kernel
theorem iX0_reach_52 (hr : z_run 5 bX0_reach_52 ls st = some (ls', st')) (g : z_J Z mX0_reach R k n Q 55 ls' st' h) : z_J Z mX0_reach R k n Q 52 ls st h := z_jr bX0_reach_52 bX0_reach_52_ok hr g
theorem dX0_reach_55 : decode cX0_reach 55 = .ok (.iastore, 1) := by decide +kernel
theorem iX0_reach_55 {f : Nat → Int32} (hh : h r = some (a, .inl (0, N, .inl f))) (hi : i = nI j) (hj : j < N) (hN : N < 2 ^ 31) (g : z_J Z mX0_reach R k n Q 56 ls st (z_u h r (a, .inl (0, N, .inl (upd f j x))))) : z_J Z mX0_reach R k n Q 55 ls (.int x :: .int i :: .ref a :: st) h := z_iast dX0_reach_55 rfl hh hi hj hN g
def bX0_reach_56 : zB := [(56, .aload_n 0, 57, nI 0)]
theorem bX0_reach_56_ok : z_ok cX0_reach 56 bX0_reach_56 57 = true := by decide +kernel
theorem iX0_reach_56 (hr : z_run 5 bX0_reach_56 ls st = some (ls', st')) (g : z_J Z mX0_reach R k n Q 57 ls' st' h) : z_J Z mX0_reach R k n Q 56 ls st h := z_jr bX0_reach_56 bX0_reach_56_ok hr g
theorem dX0_reach_57 : decode cX0_reach 57 = .ok (.getfield 29, 3) := by decide +kernel
theorem iX0_reach_57 (hh : h r = some (a, .inr (1, fs))) (hv : fs[6]? = some v) (g : z_J Z mX0_reach R k n Q 60 ls (v :: st) h) : z_J Z mX0_reach R k n Q 57 ls (.ref a :: st) h := z_get dX0_reach_57 rfl fl_X0_29 hh hv g
def bX0_reach_60 : zB := [(60, .iload 4, 62, nI 0), (62, .iload_n 3, 63, nI 0)]
theorem bX0_reach_60_ok : z_ok cX0_reach 60 bX0_reach_60 63 = true := by decide +kernel
theorem iX0_reach_60 (hr : z_run 5 bX0_reach_60 ls st = some (ls', st')) (g : z_J Z mX0_reach R k n Q 63 ls' st' h) : z_J Z mX0_reach R k n Q 60 ls st h := z_jr bX0_reach_60 bX0_reach_60_ok hr g
theorem dX0_reach_63 : decode cX0_reach 63 = .ok (.iastore, 1) := by decide +kernel
theorem iX0_reach_63 {f : Nat → Int32} (hh : h r = some (a, .inl (0, N, .inl f))) (hi : i = nI j) (hj : j < N) (hN : N < 2 ^ 31) (g : z_J Z mX0_reach R k n Q 64 ls st (z_u h r (a, .inl (0, N, .inl (upd f j x))))) : z_J Z mX0_reach R k n Q 63 ls (.int x :: .int i :: .ref a :: st) h := z_iast dX0_reach_63 rfl hh hi hj hN g
def bX0_reach_64 : zB := [(64, .aload_n 0, 65, nI 0)]
theorem bX0_reach_64_ok : z_ok cX0_reach 64 bX0_reach_64 65 = true := by decide +kernel
theorem iX0_reach_64 (hr : z_run 5 bX0_reach_64 ls st = some (ls', st')) (g : z_J Z mX0_reach R k n Q 65 ls' st' h) : z_J Z mX0_reach R k n Q 64 ls st h := z_jr bX0_reach_64 bX0_reach_64_ok hr g
theorem dX0_reach_65 : decode cX0_reach 65 = .ok (.getfield 23, 3) := by decide +kernel
theorem iX0_reach_65 (hh : h r = some (a, .inr (1, fs))) (hv : fs[4]? = some v) (g : z_J Z mX0_reach R k n Q 68 ls (v :: st) h) : z_J Z mX0_reach R k n Q 65 ls (.ref a :: st) h := z_get dX0_reach_65 rfl fl_X0_23 hh hv g
def bX0_reach_68 : zB := [(68, .aload_n 0, 69, nI 0)]
theorem bX0_reach_68_ok : z_ok cX0_reach 68 bX0_reach_68 69 = true := by decide +kernel
theorem iX0_reach_68 (hr : z_run 5 bX0_reach_68 ls st = some (ls', st')) (g : z_J Z mX0_reach R k n Q 69 ls' st' h) : z_J Z mX0_reach R k n Q 68 ls st h := z_jr bX0_reach_68 bX0_reach_68_ok hr g
theorem dX0_reach_69 : decode cX0_reach 69 = .ok (.getfield 54, 3) := by decide +kernel
theorem iX0_reach_69 (hh : h r = some (a, .inr (1, fs))) (hv : fs[7]? = some v) (g : z_J Z mX0_reach R k n Q 72 ls (v :: st) h) : z_J Z mX0_reach R k n Q 69 ls (.ref a :: st) h := z_get dX0_reach_69 rfl fl_X0_54 hh hv g
def bX0_reach_72 : zB := [(72, .iload 4, 74, nI 0)]
theorem bX0_reach_72_ok : z_ok cX0_reach 72 bX0_reach_72 74 = true := by decide +kernel
theorem iX0_reach_72 (hr : z_run 5 bX0_reach_72 ls st = some (ls', st')) (g : z_J Z mX0_reach R k n Q 74 ls' st' h) : z_J Z mX0_reach R k n Q 72 ls st h := z_jr bX0_reach_72 bX0_reach_72_ok hr g
theorem dX0_reach_74 : decode cX0_reach 74 = .ok (.iastore, 1) := by decide +kernel
theorem iX0_reach_74 {f : Nat → Int32} (hh : h r = some (a, .inl (0, N, .inl f))) (hi : i = nI j) (hj : j < N) (hN : N < 2 ^ 31) (g : z_J Z mX0_reach R k n Q 75 ls st (z_u h r (a, .inl (0, N, .inl (upd f j x))))) : z_J Z mX0_reach R k n Q 74 ls (.int x :: .int i :: .ref a :: st) h := z_iast dX0_reach_74 rfl hh hi hj hN g
def bX0_reach_75 : zB := [(75, .aload_n 0, 76, nI 0), (76, .dup, 77, nI 0)]
theorem bX0_reach_75_ok : z_ok cX0_reach 75 bX0_reach_75 77 = true := by decide +kernel
theorem iX0_reach_75 (hr : z_run 5 bX0_reach_75 ls st = some (ls', st')) (g : z_J Z mX0_reach R k n Q 77 ls' st' h) : z_J Z mX0_reach R k n Q 75 ls st h := z_jr bX0_reach_75 bX0_reach_75_ok hr g
theorem dX0_reach_77 : decode cX0_reach 77 = .ok (.getfield 54, 3) := by decide +kernel
theorem iX0_reach_77 (hh : h r = some (a, .inr (1, fs))) (hv : fs[7]? = some v) (g : z_J Z mX0_reach R k n Q 80 ls (v :: st) h) : z_J Z mX0_reach R k n Q 77 ls (.ref a :: st) h := z_get dX0_reach_77 rfl fl_X0_54 hh hv g
def bX0_reach_80 : zB := [(80, .iconst 1, 81, nI 1), (81, .iadd, 82, nI 0)]
theorem bX0_reach_80_ok : z_ok cX0_reach 80 bX0_reach_80 82 = true := by decide +kernel
theorem iX0_reach_80 (hr : z_run 5 bX0_reach_80 ls st = some (ls', st')) (g : z_J Z mX0_reach R k n Q 82 ls' st' h) : z_J Z mX0_reach R k n Q 80 ls st h := z_jr bX0_reach_80 bX0_reach_80_ok hr g
theorem dX0_reach_82 : decode cX0_reach 82 = .ok (.putfield 54, 3) := by decide +kernel
theorem iX0_reach_82 (hh : h r = some (a, .inr (1, fs))) (hl : Nat.blt 7 fs.length = true) (g : z_J Z mX0_reach R k n Q 85 ls st (z_u h r (a, .inr (1, fs.set 7 (.int x))))) : z_J Z mX0_reach R k n Q 82 ls ((.int x) :: .ref a :: st) h := z_put dX0_reach_82 rfl fl_X0_54 fw_X0_7 rfl hh rfl rfl (by simpa [Nat.blt_eq] using hl) g
def bX0_reach_85 : zB := [(85, .iinc 4 1, 88, nI 1), (88, .goto (-85), 3, nI 0)]
theorem bX0_reach_85_ok : z_ok cX0_reach 85 bX0_reach_85 3 = true := by decide +kernel
theorem iX0_reach_85 (hr : z_run 5 bX0_reach_85 ls st = some (ls', st')) (g : z_J Z mX0_reach R k n Q 3 ls' st' h) : z_J Z mX0_reach R k n Q 85 ls st h := z_jr bX0_reach_85 bX0_reach_85_ok hr g
theorem dX0_reach_91 : decode cX0_reach 91 = .ok (.return_, 1) := by decide +kernel
theorem iX0_reach_91 (hk : k ≤ R.cells) (hs : n ≤ R.slots) (hq : Q (.inl none) h) : z_J Z mX0_reach R k n Q 91 ls [] h := z_vret dX0_reach_91 rfl hk hs hq
/-! X0_giveAlong -/
def bX0_giveAlong_0 : zB := [(0, .iload_n 2, 1, nI 0)]
theorem bX0_giveAlong_0_ok : z_ok cX0_giveAlong 0 bX0_giveAlong_0 1 = true := by decide +kernel
theorem iX0_giveAlong_0 (hr : z_run 7 bX0_giveAlong_0 ls st = some (ls', st')) (g : z_J Z mX0_giveAlong R k n Q 1 ls' st' h) : z_J Z mX0_giveAlong R k n Q 0 ls st h := z_jr bX0_giveAlong_0 bX0_giveAlong_0_ok hr g
theorem dX0_giveAlong_1 : decode cX0_giveAlong 1 = .ok (.invokestatic 36, 3) := by decide +kernel
theorem iX0_giveAlong_1 (ha : z_args 1 st [] = some (As, rest)) (hc : z_chk rest As 1 = true) (hR : z_rm R R' 1 k n) (gc : z_J Z mX0_isRight R' 0 0 Q' 0 As [] h) (kr : ∀ (v : Option Value) (h' : zH), Q' (.inl v) h' → z_J Z mX0_giveAlong R (k + R'.cells) (n + R'.slots) Q 4 ls (v.toList ++ rest) h') (kx : ∀ (E : String) (h' : zH), Q' (.inr E) h' → z_JX Z mX0_giveAlong R (k + R'.cells) (n + R'.slots) Q 1 ls E h') : z_J Z mX0_giveAlong R k n Q 1 ls st h := z_callS (M' := mX0_isRight) dX0_giveAlong_1 rfl cs_X0_36 gw641 ha hR (z_chk1 hc) (z_chk2 hc) (z_chk3 hc) gc kr kx
theorem dX0_giveAlong_4 : decode cX0_giveAlong 4 = .ok (.ifCond .ne 5, 3) := by decide +kernel
theorem iX0_giveAlong_4 (kt : ¬ x = 0 → z_J Z mX0_giveAlong R k n Q 9 ls st h) (kf : x = 0 → z_J Z mX0_giveAlong R k n Q 7 ls st h) : z_J Z mX0_giveAlong R k n Q 4 ls (.int x :: st) h := z_if_ne dX0_giveAlong_4 (tgt := 9) (by decide) rfl kt kf
def bX0_giveAlong_7 : zB := [(7, .iconst 0, 8, nI 0)]
theorem bX0_giveAlong_7_ok : z_ok cX0_giveAlong 7 bX0_giveAlong_7 8 = true := by decide +kernel
theorem iX0_giveAlong_7 (hr : z_run 7 bX0_giveAlong_7 ls st = some (ls', st')) (g : z_J Z mX0_giveAlong R k n Q 8 ls' st' h) : z_J Z mX0_giveAlong R k n Q 7 ls st h := z_jr bX0_giveAlong_7 bX0_giveAlong_7_ok hr g
theorem dX0_giveAlong_8 : decode cX0_giveAlong 8 = .ok (.ireturn, 1) := by decide +kernel
theorem iX0_giveAlong_8 (hk : k ≤ R.cells) (hs : n ≤ R.slots) (hq : Q (.inl (some (.int x))) h) : z_J Z mX0_giveAlong R k n Q 8 ls [.int x] h := z_iret (ty := .int) dX0_giveAlong_8 rfl rfl hk hs hq
def bX0_giveAlong_9 : zB := [(9, .iload_n 3, 10, nI 0), (10, .aload_n 0, 11, nI 0)]
theorem bX0_giveAlong_9_ok : z_ok cX0_giveAlong 9 bX0_giveAlong_9 11 = true := by decide +kernel
theorem iX0_giveAlong_9 (hr : z_run 7 bX0_giveAlong_9 ls st = some (ls', st')) (g : z_J Z mX0_giveAlong R k n Q 11 ls' st' h) : z_J Z mX0_giveAlong R k n Q 9 ls st h := z_jr bX0_giveAlong_9 bX0_giveAlong_9_ok hr g
theorem dX0_giveAlong_11 : decode cX0_giveAlong 11 = .ok (.getfield 20, 3) := by decide +kernel
theorem iX0_giveAlong_11 (hh : h r = some (a, .inr (1, fs))) (hv : fs[2]? = some v) (g : z_J Z mX0_giveAlong R k n Q 14 ls (v :: st) h) : z_J Z mX0_giveAlong R k n Q 11 ls (.ref a :: st) h := z_get dX0_giveAlong_11 rfl fl_X0_20 hh hv g
def bX0_giveAlong_14 : zB := [(14, .iload_n 2, 15, nI 0)]
theorem bX0_giveAlong_14_ok : z_ok cX0_giveAlong 14 bX0_giveAlong_14 15 = true := by decide +kernel
theorem iX0_giveAlong_14 (hr : z_run 7 bX0_giveAlong_14 ls st = some (ls', st')) (g : z_J Z mX0_giveAlong R k n Q 15 ls' st' h) : z_J Z mX0_giveAlong R k n Q 14 ls st h := z_jr bX0_giveAlong_14 bX0_giveAlong_14_ok hr g
theorem dX0_giveAlong_15 : decode cX0_giveAlong 15 = .ok (.iaload, 1) := by decide +kernel
theorem iX0_giveAlong_15 {f : Nat → Int32} (hh : h r = some (a, .inl (0, N, .inl f))) (hi : i = nI j) (hj : j < N) (hN : N < 2 ^ 31) (g : z_J Z mX0_giveAlong R k n Q 16 ls (.int (f j) :: st) h) : z_J Z mX0_giveAlong R k n Q 15 ls (.int i :: .ref a :: st) h := z_iald dX0_giveAlong_15 rfl hh hi hj hN g
theorem dX0_giveAlong_16 : decode cX0_giveAlong 16 = .ok (.invokestatic 64, 3) := by decide +kernel
theorem iX0_giveAlong_16 (hc : z_mchk R st k n = true) (g : z_J Z mX0_giveAlong R k n Q 19 ls (.int (if y < x then y else x) :: st) h) : z_J Z mX0_giveAlong R k n Q 16 ls (.int y :: .int x :: st) h := z_mmin dX0_giveAlong_16 rfl gw660 gw361 gw47 gw_mmin hc g
def bX0_giveAlong_19 : zB := [(19, .istore 4, 21, nI 0), (21, .iload_n 2, 22, nI 0), (22, .istore 5, 24, nI 0), (24, .iconst 0, 25, nI 0), (25, .istore 6, 27, nI 0)]
theorem bX0_giveAlong_19_ok : z_ok cX0_giveAlong 19 bX0_giveAlong_19 27 = true := by decide +kernel
theorem iX0_giveAlong_19 (hr : z_run 7 bX0_giveAlong_19 ls st = some (ls', st')) (g : z_J Z mX0_giveAlong R k n Q 27 ls' st' h) : z_J Z mX0_giveAlong R k n Q 19 ls st h := z_jr bX0_giveAlong_19 bX0_giveAlong_19_ok hr g
def bX0_giveAlong_27 : zB := [(27, .iload 6, 29, nI 0), (29, .bipush 10, 31, nI 10)]
theorem bX0_giveAlong_27_ok : z_ok cX0_giveAlong 27 bX0_giveAlong_27 31 = true := by decide +kernel
theorem iX0_giveAlong_27 (hr : z_run 7 bX0_giveAlong_27 ls st = some (ls', st')) (g : z_J Z mX0_giveAlong R k n Q 31 ls' st' h) : z_J Z mX0_giveAlong R k n Q 27 ls st h := z_jr bX0_giveAlong_27 bX0_giveAlong_27_ok hr g
theorem dX0_giveAlong_31 : decode cX0_giveAlong 31 = .ok (.if_icmp .ge 54, 3) := by decide +kernel
theorem iX0_giveAlong_31 (kt : y ≤ x → z_J Z mX0_giveAlong R k n Q 85 ls st h) (kf : ¬ y ≤ x → z_J Z mX0_giveAlong R k n Q 34 ls st h) : z_J Z mX0_giveAlong R k n Q 31 ls (.int y :: .int x :: st) h := z_ic_ge dX0_giveAlong_31 (tgt := 85) (by decide) rfl kt kf
def bX0_giveAlong_34 : zB := [(34, .aload_n 0, 35, nI 0), (35, .iload 5, 37, nI 0)]
theorem bX0_giveAlong_34_ok : z_ok cX0_giveAlong 34 bX0_giveAlong_34 37 = true := by decide +kernel
theorem iX0_giveAlong_34 (hr : z_run 7 bX0_giveAlong_34 ls st = some (ls', st')) (g : z_J Z mX0_giveAlong R k n Q 37 ls' st' h) : z_J Z mX0_giveAlong R k n Q 34 ls st h := z_jr bX0_giveAlong_34 bX0_giveAlong_34_ok hr g
theorem dX0_giveAlong_37 : decode cX0_giveAlong 37 = .ok (.invokevirtual 70, 3) := by decide +kernel
theorem iX0_giveAlong_37 (ha : z_args 1 st [] = some (As, .ref b :: rest)) (hc : z_chk rest (.ref b :: As) 2 = true) (hh : h r = some (b, .inr (1, fs))) (hR : z_rm R R' 2 k n) (gc : z_J Z mX0_isExchanged R' 0 0 Q' 0 (.ref b :: As) [] h) (kr : ∀ (v : Option Value) (h' : zH), Q' (.inl v) h' → z_J Z mX0_giveAlong R (k + R'.cells) (n + R'.slots) Q 40 ls (v.toList ++ rest) h') (kx : ∀ (E : String) (h' : zH), Q' (.inr E) h' → z_JX Z mX0_giveAlong R (k + R'.cells) (n + R'.slots) Q 37 ls E h') : z_J Z mX0_giveAlong R k n Q 37 ls st h := z_callV (M' := mX0_isExchanged) dX0_giveAlong_37 rfl cs_X0_70 rfl gw663 gwp15 ha hh (ci := 1) rfl hR (z_chk1 hc) (z_chk2 hc) (z_chk3 hc) gc kr kx
theorem dX0_giveAlong_40 : decode cX0_giveAlong 40 = .ok (.ifCond .eq 45, 3) := by decide +kernel
theorem iX0_giveAlong_40 (kt : x = 0 → z_J Z mX0_giveAlong R k n Q 85 ls st h) (kf : ¬ x = 0 → z_J Z mX0_giveAlong R k n Q 43 ls st h) : z_J Z mX0_giveAlong R k n Q 40 ls (.int x :: st) h := z_if_eq dX0_giveAlong_40 (tgt := 85) (by decide) rfl kt kf
def bX0_giveAlong_43 : zB := [(43, .iload 4, 45, nI 0), (45, .aload_n 0, 46, nI 0)]
theorem bX0_giveAlong_43_ok : z_ok cX0_giveAlong 43 bX0_giveAlong_43 46 = true := by decide +kernel
theorem iX0_giveAlong_43 (hr : z_run 7 bX0_giveAlong_43 ls st = some (ls', st')) (g : z_J Z mX0_giveAlong R k n Q 46 ls' st' h) : z_J Z mX0_giveAlong R k n Q 43 ls st h := z_jr bX0_giveAlong_43 bX0_giveAlong_43_ok hr g
theorem dX0_giveAlong_46 : decode cX0_giveAlong 46 = .ok (.getfield 11, 3) := by decide +kernel
theorem iX0_giveAlong_46 (hh : h r = some (a, .inr (1, fs))) (hv : fs[0]? = some v) (g : z_J Z mX0_giveAlong R k n Q 49 ls (v :: st) h) : z_J Z mX0_giveAlong R k n Q 46 ls (.ref a :: st) h := z_get dX0_giveAlong_46 rfl fl_X0_11 hh hv g
def bX0_giveAlong_49 : zB := [(49, .aload_n 0, 50, nI 0)]
theorem bX0_giveAlong_49_ok : z_ok cX0_giveAlong 49 bX0_giveAlong_49 50 = true := by decide +kernel
theorem iX0_giveAlong_49 (hr : z_run 7 bX0_giveAlong_49 ls st = some (ls', st')) (g : z_J Z mX0_giveAlong R k n Q 50 ls' st' h) : z_J Z mX0_giveAlong R k n Q 49 ls st h := z_jr bX0_giveAlong_49 bX0_giveAlong_49_ok hr g
theorem dX0_giveAlong_50 : decode cX0_giveAlong 50 = .ok (.getfield 29, 3) := by decide +kernel
theorem iX0_giveAlong_50 (hh : h r = some (a, .inr (1, fs))) (hv : fs[6]? = some v) (g : z_J Z mX0_giveAlong R k n Q 53 ls (v :: st) h) : z_J Z mX0_giveAlong R k n Q 50 ls (.ref a :: st) h := z_get dX0_giveAlong_50 rfl fl_X0_29 hh hv g
def bX0_giveAlong_53 : zB := [(53, .iload 5, 55, nI 0)]
theorem bX0_giveAlong_53_ok : z_ok cX0_giveAlong 53 bX0_giveAlong_53 55 = true := by decide +kernel
theorem iX0_giveAlong_53 (hr : z_run 7 bX0_giveAlong_53 ls st = some (ls', st')) (g : z_J Z mX0_giveAlong R k n Q 55 ls' st' h) : z_J Z mX0_giveAlong R k n Q 53 ls st h := z_jr bX0_giveAlong_53 bX0_giveAlong_53_ok hr g
theorem dX0_giveAlong_55 : decode cX0_giveAlong 55 = .ok (.iaload, 1) := by decide +kernel
theorem iX0_giveAlong_55 {f : Nat → Int32} (hh : h r = some (a, .inl (0, N, .inl f))) (hi : i = nI j) (hj : j < N) (hN : N < 2 ^ 31) (g : z_J Z mX0_giveAlong R k n Q 56 ls (.int (f j) :: st) h) : z_J Z mX0_giveAlong R k n Q 55 ls (.int i :: .ref a :: st) h := z_iald dX0_giveAlong_55 rfl hh hi hj hN g
theorem dX0_giveAlong_56 : decode cX0_giveAlong 56 = .ok (.aaload, 1) := by decide +kernel
theorem iX0_giveAlong_56 {f : Nat → Option Nat} (hh : h r = some (a, .inl (3, N, .inr (.inr (.inr (.inr f)))))) (hi : i = nI j) (hj : j < N) (hN : N < 2 ^ 31) (g : z_J Z mX0_giveAlong R k n Q 57 ls (va_rf (f j) :: st) h) : z_J Z mX0_giveAlong R k n Q 56 ls (.int i :: .ref a :: st) h := z_aald3 dX0_giveAlong_56 rfl hh hi hj hN g
def bX0_giveAlong_57 : zB := [(57, .aload_n 0, 58, nI 0)]
theorem bX0_giveAlong_57_ok : z_ok cX0_giveAlong 57 bX0_giveAlong_57 58 = true := by decide +kernel
theorem iX0_giveAlong_57 (hr : z_run 7 bX0_giveAlong_57 ls st = some (ls', st')) (g : z_J Z mX0_giveAlong R k n Q 58 ls' st' h) : z_J Z mX0_giveAlong R k n Q 57 ls st h := z_jr bX0_giveAlong_57 bX0_giveAlong_57_ok hr g
theorem dX0_giveAlong_58 : decode cX0_giveAlong 58 = .ok (.getfield 26, 3) := by decide +kernel
theorem iX0_giveAlong_58 (hh : h r = some (a, .inr (1, fs))) (hv : fs[5]? = some v) (g : z_J Z mX0_giveAlong R k n Q 61 ls (v :: st) h) : z_J Z mX0_giveAlong R k n Q 58 ls (.ref a :: st) h := z_get dX0_giveAlong_58 rfl fl_X0_26 hh hv g
def bX0_giveAlong_61 : zB := [(61, .iload 5, 63, nI 0)]
theorem bX0_giveAlong_61_ok : z_ok cX0_giveAlong 61 bX0_giveAlong_61 63 = true := by decide +kernel
theorem iX0_giveAlong_61 (hr : z_run 7 bX0_giveAlong_61 ls st = some (ls', st')) (g : z_J Z mX0_giveAlong R k n Q 63 ls' st' h) : z_J Z mX0_giveAlong R k n Q 61 ls st h := z_jr bX0_giveAlong_61 bX0_giveAlong_61_ok hr g
theorem dX0_giveAlong_63 : decode cX0_giveAlong 63 = .ok (.iaload, 1) := by decide +kernel
theorem iX0_giveAlong_63 {f : Nat → Int32} (hh : h r = some (a, .inl (0, N, .inl f))) (hi : i = nI j) (hj : j < N) (hN : N < 2 ^ 31) (g : z_J Z mX0_giveAlong R k n Q 64 ls (.int (f j) :: st) h) : z_J Z mX0_giveAlong R k n Q 63 ls (.int i :: .ref a :: st) h := z_iald dX0_giveAlong_63 rfl hh hi hj hN g
theorem dX0_giveAlong_64 : decode cX0_giveAlong 64 = .ok (.iaload, 1) := by decide +kernel
theorem iX0_giveAlong_64 {f : Nat → Int32} (hh : h r = some (a, .inl (0, N, .inl f))) (hi : i = nI j) (hj : j < N) (hN : N < 2 ^ 31) (g : z_J Z mX0_giveAlong R k n Q 65 ls (.int (f j) :: st) h) : z_J Z mX0_giveAlong R k n Q 64 ls (.int i :: .ref a :: st) h := z_iald dX0_giveAlong_64 rfl hh hi hj hN g
theorem dX0_giveAlong_65 : decode cX0_giveAlong 65 = .ok (.invokestatic 64, 3) := by decide +kernel
theorem iX0_giveAlong_65 (hc : z_mchk R st k n = true) (g : z_J Z mX0_giveAlong R k n Q 68 ls (.int (if y < x then y else x) :: st) h) : z_J Z mX0_giveAlong R k n Q 65 ls (.int y :: .int x :: st) h := z_mmin dX0_giveAlong_65 rfl gw660 gw361 gw47 gw_mmin hc g
def bX0_giveAlong_68 : zB := [(68, .istore 4, 70, nI 0), (70, .aload_n 0, 71, nI 0)]
theorem bX0_giveAlong_68_ok : z_ok cX0_giveAlong 68 bX0_giveAlong_68 71 = true := by decide +kernel
theorem iX0_giveAlong_68 (hr : z_run 7 bX0_giveAlong_68 ls st = some (ls', st')) (g : z_J Z mX0_giveAlong R k n Q 71 ls' st' h) : z_J Z mX0_giveAlong R k n Q 68 ls st h := z_jr bX0_giveAlong_68 bX0_giveAlong_68_ok hr g
theorem dX0_giveAlong_71 : decode cX0_giveAlong 71 = .ok (.getfield 26, 3) := by decide +kernel
theorem iX0_giveAlong_71 (hh : h r = some (a, .inr (1, fs))) (hv : fs[5]? = some v) (g : z_J Z mX0_giveAlong R k n Q 74 ls (v :: st) h) : z_J Z mX0_giveAlong R k n Q 71 ls (.ref a :: st) h := z_get dX0_giveAlong_71 rfl fl_X0_26 hh hv g
def bX0_giveAlong_74 : zB := [(74, .iload 5, 76, nI 0)]
theorem bX0_giveAlong_74_ok : z_ok cX0_giveAlong 74 bX0_giveAlong_74 76 = true := by decide +kernel
theorem iX0_giveAlong_74 (hr : z_run 7 bX0_giveAlong_74 ls st = some (ls', st')) (g : z_J Z mX0_giveAlong R k n Q 76 ls' st' h) : z_J Z mX0_giveAlong R k n Q 74 ls st h := z_jr bX0_giveAlong_74 bX0_giveAlong_74_ok hr g
theorem dX0_giveAlong_76 : decode cX0_giveAlong 76 = .ok (.iaload, 1) := by decide +kernel
theorem iX0_giveAlong_76 {f : Nat → Int32} (hh : h r = some (a, .inl (0, N, .inl f))) (hi : i = nI j) (hj : j < N) (hN : N < 2 ^ 31) (g : z_J Z mX0_giveAlong R k n Q 77 ls (.int (f j) :: st) h) : z_J Z mX0_giveAlong R k n Q 76 ls (.int i :: .ref a :: st) h := z_iald dX0_giveAlong_76 rfl hh hi hj hN g
def bX0_giveAlong_77 : zB := [(77, .istore 5, 79, nI 0), (79, .iinc 6 1, 82, nI 1), (82, .goto (-55), 27, nI 0)]
theorem bX0_giveAlong_77_ok : z_ok cX0_giveAlong 77 bX0_giveAlong_77 27 = true := by decide +kernel
theorem iX0_giveAlong_77 (hr : z_run 7 bX0_giveAlong_77 ls st = some (ls', st')) (g : z_J Z mX0_giveAlong R k n Q 27 ls' st' h) : z_J Z mX0_giveAlong R k n Q 77 ls st h := z_jr bX0_giveAlong_77 bX0_giveAlong_77_ok hr g
def bX0_giveAlong_85 : zB := [(85, .aload_n 0, 86, nI 0)]
theorem bX0_giveAlong_85_ok : z_ok cX0_giveAlong 85 bX0_giveAlong_85 86 = true := by decide +kernel
theorem iX0_giveAlong_85 (hr : z_run 7 bX0_giveAlong_85 ls st = some (ls', st')) (g : z_J Z mX0_giveAlong R k n Q 86 ls' st' h) : z_J Z mX0_giveAlong R k n Q 85 ls st h := z_jr bX0_giveAlong_85 bX0_giveAlong_85_ok hr g
theorem dX0_giveAlong_86 : decode cX0_giveAlong 86 = .ok (.getfield 20, 3) := by decide +kernel
theorem iX0_giveAlong_86 (hh : h r = some (a, .inr (1, fs))) (hv : fs[2]? = some v) (g : z_J Z mX0_giveAlong R k n Q 89 ls (v :: st) h) : z_J Z mX0_giveAlong R k n Q 86 ls (.ref a :: st) h := z_get dX0_giveAlong_86 rfl fl_X0_20 hh hv g
def bX0_giveAlong_89 : zB := [(89, .iload_n 2, 90, nI 0), (90, .dup2, 91, nI 0)]
theorem bX0_giveAlong_89_ok : z_ok cX0_giveAlong 89 bX0_giveAlong_89 91 = true := by decide +kernel
theorem iX0_giveAlong_89 (hr : z_run 7 bX0_giveAlong_89 ls st = some (ls', st')) (g : z_J Z mX0_giveAlong R k n Q 91 ls' st' h) : z_J Z mX0_giveAlong R k n Q 89 ls st h := z_jr bX0_giveAlong_89 bX0_giveAlong_89_ok hr g
theorem dX0_giveAlong_91 : decode cX0_giveAlong 91 = .ok (.iaload, 1) := by decide +kernel
theorem iX0_giveAlong_91 {f : Nat → Int32} (hh : h r = some (a, .inl (0, N, .inl f))) (hi : i = nI j) (hj : j < N) (hN : N < 2 ^ 31) (g : z_J Z mX0_giveAlong R k n Q 92 ls (.int (f j) :: st) h) : z_J Z mX0_giveAlong R k n Q 91 ls (.int i :: .ref a :: st) h := z_iald dX0_giveAlong_91 rfl hh hi hj hN g
def bX0_giveAlong_92 : zB := [(92, .iload 4, 94, nI 0), (94, .isub, 95, nI 0)]
theorem bX0_giveAlong_92_ok : z_ok cX0_giveAlong 92 bX0_giveAlong_92 95 = true := by decide +kernel
theorem iX0_giveAlong_92 (hr : z_run 7 bX0_giveAlong_92 ls st = some (ls', st')) (g : z_J Z mX0_giveAlong R k n Q 95 ls' st' h) : z_J Z mX0_giveAlong R k n Q 92 ls st h := z_jr bX0_giveAlong_92 bX0_giveAlong_92_ok hr g
theorem dX0_giveAlong_95 : decode cX0_giveAlong 95 = .ok (.iastore, 1) := by decide +kernel
theorem iX0_giveAlong_95 {f : Nat → Int32} (hh : h r = some (a, .inl (0, N, .inl f))) (hi : i = nI j) (hj : j < N) (hN : N < 2 ^ 31) (g : z_J Z mX0_giveAlong R k n Q 96 ls st (z_u h r (a, .inl (0, N, .inl (upd f j x))))) : z_J Z mX0_giveAlong R k n Q 95 ls (.int x :: .int i :: .ref a :: st) h := z_iast dX0_giveAlong_95 rfl hh hi hj hN g
def bX0_giveAlong_96 : zB := [(96, .iload_n 2, 97, nI 0), (97, .istore 5, 99, nI 0), (99, .iconst 0, 100, nI 0), (100, .istore 6, 102, nI 0)]
theorem bX0_giveAlong_96_ok : z_ok cX0_giveAlong 96 bX0_giveAlong_96 102 = true := by decide +kernel
theorem iX0_giveAlong_96 (hr : z_run 7 bX0_giveAlong_96 ls st = some (ls', st')) (g : z_J Z mX0_giveAlong R k n Q 102 ls' st' h) : z_J Z mX0_giveAlong R k n Q 96 ls st h := z_jr bX0_giveAlong_96 bX0_giveAlong_96_ok hr g
def bX0_giveAlong_102 : zB := [(102, .iload 6, 104, nI 0), (104, .bipush 10, 106, nI 10)]
theorem bX0_giveAlong_102_ok : z_ok cX0_giveAlong 102 bX0_giveAlong_102 106 = true := by decide +kernel
theorem iX0_giveAlong_102 (hr : z_run 7 bX0_giveAlong_102 ls st = some (ls', st')) (g : z_J Z mX0_giveAlong R k n Q 106 ls' st' h) : z_J Z mX0_giveAlong R k n Q 102 ls st h := z_jr bX0_giveAlong_102 bX0_giveAlong_102_ok hr g
theorem dX0_giveAlong_106 : decode cX0_giveAlong 106 = .ok (.if_icmp .ge 72, 3) := by decide +kernel
theorem iX0_giveAlong_106 (kt : y ≤ x → z_J Z mX0_giveAlong R k n Q 178 ls st h) (kf : ¬ y ≤ x → z_J Z mX0_giveAlong R k n Q 109 ls st h) : z_J Z mX0_giveAlong R k n Q 106 ls (.int y :: .int x :: st) h := z_ic_ge dX0_giveAlong_106 (tgt := 178) (by decide) rfl kt kf
def bX0_giveAlong_109 : zB := [(109, .aload_n 0, 110, nI 0), (110, .iload 5, 112, nI 0)]
theorem bX0_giveAlong_109_ok : z_ok cX0_giveAlong 109 bX0_giveAlong_109 112 = true := by decide +kernel
theorem iX0_giveAlong_109 (hr : z_run 7 bX0_giveAlong_109 ls st = some (ls', st')) (g : z_J Z mX0_giveAlong R k n Q 112 ls' st' h) : z_J Z mX0_giveAlong R k n Q 109 ls st h := z_jr bX0_giveAlong_109 bX0_giveAlong_109_ok hr g
theorem dX0_giveAlong_112 : decode cX0_giveAlong 112 = .ok (.invokevirtual 70, 3) := by decide +kernel
theorem iX0_giveAlong_112 (ha : z_args 1 st [] = some (As, .ref b :: rest)) (hc : z_chk rest (.ref b :: As) 2 = true) (hh : h r = some (b, .inr (1, fs))) (hR : z_rm R R' 2 k n) (gc : z_J Z mX0_isExchanged R' 0 0 Q' 0 (.ref b :: As) [] h) (kr : ∀ (v : Option Value) (h' : zH), Q' (.inl v) h' → z_J Z mX0_giveAlong R (k + R'.cells) (n + R'.slots) Q 115 ls (v.toList ++ rest) h') (kx : ∀ (E : String) (h' : zH), Q' (.inr E) h' → z_JX Z mX0_giveAlong R (k + R'.cells) (n + R'.slots) Q 112 ls E h') : z_J Z mX0_giveAlong R k n Q 112 ls st h := z_callV (M' := mX0_isExchanged) dX0_giveAlong_112 rfl cs_X0_70 rfl gw663 gwp15 ha hh (ci := 1) rfl hR (z_chk1 hc) (z_chk2 hc) (z_chk3 hc) gc kr kx
theorem dX0_giveAlong_115 : decode cX0_giveAlong 115 = .ok (.ifCond .eq 63, 3) := by decide +kernel
theorem iX0_giveAlong_115 (kt : x = 0 → z_J Z mX0_giveAlong R k n Q 178 ls st h) (kf : ¬ x = 0 → z_J Z mX0_giveAlong R k n Q 118 ls st h) : z_J Z mX0_giveAlong R k n Q 115 ls (.int x :: st) h := z_if_eq dX0_giveAlong_115 (tgt := 178) (by decide) rfl kt kf
def bX0_giveAlong_118 : zB := [(118, .aload_n 0, 119, nI 0)]
theorem bX0_giveAlong_118_ok : z_ok cX0_giveAlong 118 bX0_giveAlong_118 119 = true := by decide +kernel
theorem iX0_giveAlong_118 (hr : z_run 7 bX0_giveAlong_118 ls st = some (ls', st')) (g : z_J Z mX0_giveAlong R k n Q 119 ls' st' h) : z_J Z mX0_giveAlong R k n Q 118 ls st h := z_jr bX0_giveAlong_118 bX0_giveAlong_118_ok hr g
theorem dX0_giveAlong_119 : decode cX0_giveAlong 119 = .ok (.getfield 11, 3) := by decide +kernel
theorem iX0_giveAlong_119 (hh : h r = some (a, .inr (1, fs))) (hv : fs[0]? = some v) (g : z_J Z mX0_giveAlong R k n Q 122 ls (v :: st) h) : z_J Z mX0_giveAlong R k n Q 119 ls (.ref a :: st) h := z_get dX0_giveAlong_119 rfl fl_X0_11 hh hv g
def bX0_giveAlong_122 : zB := [(122, .aload_n 0, 123, nI 0)]
theorem bX0_giveAlong_122_ok : z_ok cX0_giveAlong 122 bX0_giveAlong_122 123 = true := by decide +kernel
theorem iX0_giveAlong_122 (hr : z_run 7 bX0_giveAlong_122 ls st = some (ls', st')) (g : z_J Z mX0_giveAlong R k n Q 123 ls' st' h) : z_J Z mX0_giveAlong R k n Q 122 ls st h := z_jr bX0_giveAlong_122 bX0_giveAlong_122_ok hr g
theorem dX0_giveAlong_123 : decode cX0_giveAlong 123 = .ok (.getfield 29, 3) := by decide +kernel
theorem iX0_giveAlong_123 (hh : h r = some (a, .inr (1, fs))) (hv : fs[6]? = some v) (g : z_J Z mX0_giveAlong R k n Q 126 ls (v :: st) h) : z_J Z mX0_giveAlong R k n Q 123 ls (.ref a :: st) h := z_get dX0_giveAlong_123 rfl fl_X0_29 hh hv g
def bX0_giveAlong_126 : zB := [(126, .iload 5, 128, nI 0)]
theorem bX0_giveAlong_126_ok : z_ok cX0_giveAlong 126 bX0_giveAlong_126 128 = true := by decide +kernel
theorem iX0_giveAlong_126 (hr : z_run 7 bX0_giveAlong_126 ls st = some (ls', st')) (g : z_J Z mX0_giveAlong R k n Q 128 ls' st' h) : z_J Z mX0_giveAlong R k n Q 126 ls st h := z_jr bX0_giveAlong_126 bX0_giveAlong_126_ok hr g
theorem dX0_giveAlong_128 : decode cX0_giveAlong 128 = .ok (.iaload, 1) := by decide +kernel
theorem iX0_giveAlong_128 {f : Nat → Int32} (hh : h r = some (a, .inl (0, N, .inl f))) (hi : i = nI j) (hj : j < N) (hN : N < 2 ^ 31) (g : z_J Z mX0_giveAlong R k n Q 129 ls (.int (f j) :: st) h) : z_J Z mX0_giveAlong R k n Q 128 ls (.int i :: .ref a :: st) h := z_iald dX0_giveAlong_128 rfl hh hi hj hN g
theorem dX0_giveAlong_129 : decode cX0_giveAlong 129 = .ok (.aaload, 1) := by decide +kernel
theorem iX0_giveAlong_129 {f : Nat → Option Nat} (hh : h r = some (a, .inl (3, N, .inr (.inr (.inr (.inr f)))))) (hi : i = nI j) (hj : j < N) (hN : N < 2 ^ 31) (g : z_J Z mX0_giveAlong R k n Q 130 ls (va_rf (f j) :: st) h) : z_J Z mX0_giveAlong R k n Q 129 ls (.int i :: .ref a :: st) h := z_aald3 dX0_giveAlong_129 rfl hh hi hj hN g
def bX0_giveAlong_130 : zB := [(130, .iload 5, 132, nI 0), (132, .dup2, 133, nI 0)]
theorem bX0_giveAlong_130_ok : z_ok cX0_giveAlong 130 bX0_giveAlong_130 133 = true := by decide +kernel
theorem iX0_giveAlong_130 (hr : z_run 7 bX0_giveAlong_130 ls st = some (ls', st')) (g : z_J Z mX0_giveAlong R k n Q 133 ls' st' h) : z_J Z mX0_giveAlong R k n Q 130 ls st h := z_jr bX0_giveAlong_130 bX0_giveAlong_130_ok hr g
theorem dX0_giveAlong_133 : decode cX0_giveAlong 133 = .ok (.iaload, 1) := by decide +kernel
theorem iX0_giveAlong_133 {f : Nat → Int32} (hh : h r = some (a, .inl (0, N, .inl f))) (hi : i = nI j) (hj : j < N) (hN : N < 2 ^ 31) (g : z_J Z mX0_giveAlong R k n Q 134 ls (.int (f j) :: st) h) : z_J Z mX0_giveAlong R k n Q 133 ls (.int i :: .ref a :: st) h := z_iald dX0_giveAlong_133 rfl hh hi hj hN g
def bX0_giveAlong_134 : zB := [(134, .iload 4, 136, nI 0), (136, .iadd, 137, nI 0)]
theorem bX0_giveAlong_134_ok : z_ok cX0_giveAlong 134 bX0_giveAlong_134 137 = true := by decide +kernel
theorem iX0_giveAlong_134 (hr : z_run 7 bX0_giveAlong_134 ls st = some (ls', st')) (g : z_J Z mX0_giveAlong R k n Q 137 ls' st' h) : z_J Z mX0_giveAlong R k n Q 134 ls st h := z_jr bX0_giveAlong_134 bX0_giveAlong_134_ok hr g
theorem dX0_giveAlong_137 : decode cX0_giveAlong 137 = .ok (.iastore, 1) := by decide +kernel
theorem iX0_giveAlong_137 {f : Nat → Int32} (hh : h r = some (a, .inl (0, N, .inl f))) (hi : i = nI j) (hj : j < N) (hN : N < 2 ^ 31) (g : z_J Z mX0_giveAlong R k n Q 138 ls st (z_u h r (a, .inl (0, N, .inl (upd f j x))))) : z_J Z mX0_giveAlong R k n Q 137 ls (.int x :: .int i :: .ref a :: st) h := z_iast dX0_giveAlong_137 rfl hh hi hj hN g
def bX0_giveAlong_138 : zB := [(138, .aload_n 0, 139, nI 0)]
theorem bX0_giveAlong_138_ok : z_ok cX0_giveAlong 138 bX0_giveAlong_138 139 = true := by decide +kernel
theorem iX0_giveAlong_138 (hr : z_run 7 bX0_giveAlong_138 ls st = some (ls', st')) (g : z_J Z mX0_giveAlong R k n Q 139 ls' st' h) : z_J Z mX0_giveAlong R k n Q 138 ls st h := z_jr bX0_giveAlong_138 bX0_giveAlong_138_ok hr g
theorem dX0_giveAlong_139 : decode cX0_giveAlong 139 = .ok (.getfield 11, 3) := by decide +kernel
theorem iX0_giveAlong_139 (hh : h r = some (a, .inr (1, fs))) (hv : fs[0]? = some v) (g : z_J Z mX0_giveAlong R k n Q 142 ls (v :: st) h) : z_J Z mX0_giveAlong R k n Q 139 ls (.ref a :: st) h := z_get dX0_giveAlong_139 rfl fl_X0_11 hh hv g
def bX0_giveAlong_142 : zB := [(142, .aload_n 0, 143, nI 0)]
theorem bX0_giveAlong_142_ok : z_ok cX0_giveAlong 142 bX0_giveAlong_142 143 = true := by decide +kernel
theorem iX0_giveAlong_142 (hr : z_run 7 bX0_giveAlong_142 ls st = some (ls', st')) (g : z_J Z mX0_giveAlong R k n Q 143 ls' st' h) : z_J Z mX0_giveAlong R k n Q 142 ls st h := z_jr bX0_giveAlong_142 bX0_giveAlong_142_ok hr g
theorem dX0_giveAlong_143 : decode cX0_giveAlong 143 = .ok (.getfield 29, 3) := by decide +kernel
theorem iX0_giveAlong_143 (hh : h r = some (a, .inr (1, fs))) (hv : fs[6]? = some v) (g : z_J Z mX0_giveAlong R k n Q 146 ls (v :: st) h) : z_J Z mX0_giveAlong R k n Q 143 ls (.ref a :: st) h := z_get dX0_giveAlong_143 rfl fl_X0_29 hh hv g
def bX0_giveAlong_146 : zB := [(146, .iload 5, 148, nI 0)]
theorem bX0_giveAlong_146_ok : z_ok cX0_giveAlong 146 bX0_giveAlong_146 148 = true := by decide +kernel
theorem iX0_giveAlong_146 (hr : z_run 7 bX0_giveAlong_146 ls st = some (ls', st')) (g : z_J Z mX0_giveAlong R k n Q 148 ls' st' h) : z_J Z mX0_giveAlong R k n Q 146 ls st h := z_jr bX0_giveAlong_146 bX0_giveAlong_146_ok hr g
theorem dX0_giveAlong_148 : decode cX0_giveAlong 148 = .ok (.iaload, 1) := by decide +kernel
theorem iX0_giveAlong_148 {f : Nat → Int32} (hh : h r = some (a, .inl (0, N, .inl f))) (hi : i = nI j) (hj : j < N) (hN : N < 2 ^ 31) (g : z_J Z mX0_giveAlong R k n Q 149 ls (.int (f j) :: st) h) : z_J Z mX0_giveAlong R k n Q 148 ls (.int i :: .ref a :: st) h := z_iald dX0_giveAlong_148 rfl hh hi hj hN g
theorem dX0_giveAlong_149 : decode cX0_giveAlong 149 = .ok (.aaload, 1) := by decide +kernel
theorem iX0_giveAlong_149 {f : Nat → Option Nat} (hh : h r = some (a, .inl (3, N, .inr (.inr (.inr (.inr f)))))) (hi : i = nI j) (hj : j < N) (hN : N < 2 ^ 31) (g : z_J Z mX0_giveAlong R k n Q 150 ls (va_rf (f j) :: st) h) : z_J Z mX0_giveAlong R k n Q 149 ls (.int i :: .ref a :: st) h := z_aald3 dX0_giveAlong_149 rfl hh hi hj hN g
def bX0_giveAlong_150 : zB := [(150, .aload_n 0, 151, nI 0)]
theorem bX0_giveAlong_150_ok : z_ok cX0_giveAlong 150 bX0_giveAlong_150 151 = true := by decide +kernel
theorem iX0_giveAlong_150 (hr : z_run 7 bX0_giveAlong_150 ls st = some (ls', st')) (g : z_J Z mX0_giveAlong R k n Q 151 ls' st' h) : z_J Z mX0_giveAlong R k n Q 150 ls st h := z_jr bX0_giveAlong_150 bX0_giveAlong_150_ok hr g
theorem dX0_giveAlong_151 : decode cX0_giveAlong 151 = .ok (.getfield 26, 3) := by decide +kernel
theorem iX0_giveAlong_151 (hh : h r = some (a, .inr (1, fs))) (hv : fs[5]? = some v) (g : z_J Z mX0_giveAlong R k n Q 154 ls (v :: st) h) : z_J Z mX0_giveAlong R k n Q 151 ls (.ref a :: st) h := z_get dX0_giveAlong_151 rfl fl_X0_26 hh hv g
def bX0_giveAlong_154 : zB := [(154, .iload 5, 156, nI 0)]
theorem bX0_giveAlong_154_ok : z_ok cX0_giveAlong 154 bX0_giveAlong_154 156 = true := by decide +kernel
theorem iX0_giveAlong_154 (hr : z_run 7 bX0_giveAlong_154 ls st = some (ls', st')) (g : z_J Z mX0_giveAlong R k n Q 156 ls' st' h) : z_J Z mX0_giveAlong R k n Q 154 ls st h := z_jr bX0_giveAlong_154 bX0_giveAlong_154_ok hr g
theorem dX0_giveAlong_156 : decode cX0_giveAlong 156 = .ok (.iaload, 1) := by decide +kernel
theorem iX0_giveAlong_156 {f : Nat → Int32} (hh : h r = some (a, .inl (0, N, .inl f))) (hi : i = nI j) (hj : j < N) (hN : N < 2 ^ 31) (g : z_J Z mX0_giveAlong R k n Q 157 ls (.int (f j) :: st) h) : z_J Z mX0_giveAlong R k n Q 156 ls (.int i :: .ref a :: st) h := z_iald dX0_giveAlong_156 rfl hh hi hj hN g
def bX0_giveAlong_157 : zB := [(157, .dup2, 158, nI 0)]
theorem bX0_giveAlong_157_ok : z_ok cX0_giveAlong 157 bX0_giveAlong_157 158 = true := by decide +kernel
theorem iX0_giveAlong_157 (hr : z_run 7 bX0_giveAlong_157 ls st = some (ls', st')) (g : z_J Z mX0_giveAlong R k n Q 158 ls' st' h) : z_J Z mX0_giveAlong R k n Q 157 ls st h := z_jr bX0_giveAlong_157 bX0_giveAlong_157_ok hr g
theorem dX0_giveAlong_158 : decode cX0_giveAlong 158 = .ok (.iaload, 1) := by decide +kernel
theorem iX0_giveAlong_158 {f : Nat → Int32} (hh : h r = some (a, .inl (0, N, .inl f))) (hi : i = nI j) (hj : j < N) (hN : N < 2 ^ 31) (g : z_J Z mX0_giveAlong R k n Q 159 ls (.int (f j) :: st) h) : z_J Z mX0_giveAlong R k n Q 158 ls (.int i :: .ref a :: st) h := z_iald dX0_giveAlong_158 rfl hh hi hj hN g
def bX0_giveAlong_159 : zB := [(159, .iload 4, 161, nI 0), (161, .isub, 162, nI 0)]
theorem bX0_giveAlong_159_ok : z_ok cX0_giveAlong 159 bX0_giveAlong_159 162 = true := by decide +kernel
theorem iX0_giveAlong_159 (hr : z_run 7 bX0_giveAlong_159 ls st = some (ls', st')) (g : z_J Z mX0_giveAlong R k n Q 162 ls' st' h) : z_J Z mX0_giveAlong R k n Q 159 ls st h := z_jr bX0_giveAlong_159 bX0_giveAlong_159_ok hr g
theorem dX0_giveAlong_162 : decode cX0_giveAlong 162 = .ok (.iastore, 1) := by decide +kernel
theorem iX0_giveAlong_162 {f : Nat → Int32} (hh : h r = some (a, .inl (0, N, .inl f))) (hi : i = nI j) (hj : j < N) (hN : N < 2 ^ 31) (g : z_J Z mX0_giveAlong R k n Q 163 ls st (z_u h r (a, .inl (0, N, .inl (upd f j x))))) : z_J Z mX0_giveAlong R k n Q 162 ls (.int x :: .int i :: .ref a :: st) h := z_iast dX0_giveAlong_162 rfl hh hi hj hN g
def bX0_giveAlong_163 : zB := [(163, .aload_n 0, 164, nI 0)]
theorem bX0_giveAlong_163_ok : z_ok cX0_giveAlong 163 bX0_giveAlong_163 164 = true := by decide +kernel
theorem iX0_giveAlong_163 (hr : z_run 7 bX0_giveAlong_163 ls st = some (ls', st')) (g : z_J Z mX0_giveAlong R k n Q 164 ls' st' h) : z_J Z mX0_giveAlong R k n Q 163 ls st h := z_jr bX0_giveAlong_163 bX0_giveAlong_163_ok hr g
theorem dX0_giveAlong_164 : decode cX0_giveAlong 164 = .ok (.getfield 26, 3) := by decide +kernel
theorem iX0_giveAlong_164 (hh : h r = some (a, .inr (1, fs))) (hv : fs[5]? = some v) (g : z_J Z mX0_giveAlong R k n Q 167 ls (v :: st) h) : z_J Z mX0_giveAlong R k n Q 164 ls (.ref a :: st) h := z_get dX0_giveAlong_164 rfl fl_X0_26 hh hv g
def bX0_giveAlong_167 : zB := [(167, .iload 5, 169, nI 0)]
theorem bX0_giveAlong_167_ok : z_ok cX0_giveAlong 167 bX0_giveAlong_167 169 = true := by decide +kernel
theorem iX0_giveAlong_167 (hr : z_run 7 bX0_giveAlong_167 ls st = some (ls', st')) (g : z_J Z mX0_giveAlong R k n Q 169 ls' st' h) : z_J Z mX0_giveAlong R k n Q 167 ls st h := z_jr bX0_giveAlong_167 bX0_giveAlong_167_ok hr g
theorem dX0_giveAlong_169 : decode cX0_giveAlong 169 = .ok (.iaload, 1) := by decide +kernel
theorem iX0_giveAlong_169 {f : Nat → Int32} (hh : h r = some (a, .inl (0, N, .inl f))) (hi : i = nI j) (hj : j < N) (hN : N < 2 ^ 31) (g : z_J Z mX0_giveAlong R k n Q 170 ls (.int (f j) :: st) h) : z_J Z mX0_giveAlong R k n Q 169 ls (.int i :: .ref a :: st) h := z_iald dX0_giveAlong_169 rfl hh hi hj hN g
def bX0_giveAlong_170 : zB := [(170, .istore 5, 172, nI 0), (172, .iinc 6 1, 175, nI 1), (175, .goto (-73), 102, nI 0)]
theorem bX0_giveAlong_170_ok : z_ok cX0_giveAlong 170 bX0_giveAlong_170 102 = true := by decide +kernel
theorem iX0_giveAlong_170 (hr : z_run 7 bX0_giveAlong_170 ls st = some (ls', st')) (g : z_J Z mX0_giveAlong R k n Q 102 ls' st' h) : z_J Z mX0_giveAlong R k n Q 170 ls st h := z_jr bX0_giveAlong_170 bX0_giveAlong_170_ok hr g
def bX0_giveAlong_178 : zB := [(178, .aload_n 0, 179, nI 0)]
theorem bX0_giveAlong_178_ok : z_ok cX0_giveAlong 178 bX0_giveAlong_178 179 = true := by decide +kernel
theorem iX0_giveAlong_178 (hr : z_run 7 bX0_giveAlong_178 ls st = some (ls', st')) (g : z_J Z mX0_giveAlong R k n Q 179 ls' st' h) : z_J Z mX0_giveAlong R k n Q 178 ls st h := z_jr bX0_giveAlong_178 bX0_giveAlong_178_ok hr g
theorem dX0_giveAlong_179 : decode cX0_giveAlong 179 = .ok (.getfield 11, 3) := by decide +kernel
theorem iX0_giveAlong_179 (hh : h r = some (a, .inr (1, fs))) (hv : fs[0]? = some v) (g : z_J Z mX0_giveAlong R k n Q 182 ls (v :: st) h) : z_J Z mX0_giveAlong R k n Q 179 ls (.ref a :: st) h := z_get dX0_giveAlong_179 rfl fl_X0_11 hh hv g
def bX0_giveAlong_182 : zB := [(182, .iload_n 1, 183, nI 0)]
theorem bX0_giveAlong_182_ok : z_ok cX0_giveAlong 182 bX0_giveAlong_182 183 = true := by decide +kernel
theorem iX0_giveAlong_182 (hr : z_run 7 bX0_giveAlong_182 ls st = some (ls', st')) (g : z_J Z mX0_giveAlong R k n Q 183 ls' st' h) : z_J Z mX0_giveAlong R k n Q 182 ls st h := z_jr bX0_giveAlong_182 bX0_giveAlong_182_ok hr g
theorem dX0_giveAlong_183 : decode cX0_giveAlong 183 = .ok (.aaload, 1) := by decide +kernel
theorem iX0_giveAlong_183 {f : Nat → Option Nat} (hh : h r = some (a, .inl (3, N, .inr (.inr (.inr (.inr f)))))) (hi : i = nI j) (hj : j < N) (hN : N < 2 ^ 31) (g : z_J Z mX0_giveAlong R k n Q 184 ls (va_rf (f j) :: st) h) : z_J Z mX0_giveAlong R k n Q 183 ls (.int i :: .ref a :: st) h := z_aald3 dX0_giveAlong_183 rfl hh hi hj hN g
def bX0_giveAlong_184 : zB := [(184, .iload 5, 186, nI 0), (186, .dup2, 187, nI 0)]
theorem bX0_giveAlong_184_ok : z_ok cX0_giveAlong 184 bX0_giveAlong_184 187 = true := by decide +kernel
theorem iX0_giveAlong_184 (hr : z_run 7 bX0_giveAlong_184 ls st = some (ls', st')) (g : z_J Z mX0_giveAlong R k n Q 187 ls' st' h) : z_J Z mX0_giveAlong R k n Q 184 ls st h := z_jr bX0_giveAlong_184 bX0_giveAlong_184_ok hr g
theorem dX0_giveAlong_187 : decode cX0_giveAlong 187 = .ok (.iaload, 1) := by decide +kernel
theorem iX0_giveAlong_187 {f : Nat → Int32} (hh : h r = some (a, .inl (0, N, .inl f))) (hi : i = nI j) (hj : j < N) (hN : N < 2 ^ 31) (g : z_J Z mX0_giveAlong R k n Q 188 ls (.int (f j) :: st) h) : z_J Z mX0_giveAlong R k n Q 187 ls (.int i :: .ref a :: st) h := z_iald dX0_giveAlong_187 rfl hh hi hj hN g
def bX0_giveAlong_188 : zB := [(188, .iload 4, 190, nI 0), (190, .iadd, 191, nI 0)]
theorem bX0_giveAlong_188_ok : z_ok cX0_giveAlong 188 bX0_giveAlong_188 191 = true := by decide +kernel
theorem iX0_giveAlong_188 (hr : z_run 7 bX0_giveAlong_188 ls st = some (ls', st')) (g : z_J Z mX0_giveAlong R k n Q 191 ls' st' h) : z_J Z mX0_giveAlong R k n Q 188 ls st h := z_jr bX0_giveAlong_188 bX0_giveAlong_188_ok hr g
theorem dX0_giveAlong_191 : decode cX0_giveAlong 191 = .ok (.iastore, 1) := by decide +kernel
theorem iX0_giveAlong_191 {f : Nat → Int32} (hh : h r = some (a, .inl (0, N, .inl f))) (hi : i = nI j) (hj : j < N) (hN : N < 2 ^ 31) (g : z_J Z mX0_giveAlong R k n Q 192 ls st (z_u h r (a, .inl (0, N, .inl (upd f j x))))) : z_J Z mX0_giveAlong R k n Q 191 ls (.int x :: .int i :: .ref a :: st) h := z_iast dX0_giveAlong_191 rfl hh hi hj hN g
def bX0_giveAlong_192 : zB := [(192, .iload 4, 194, nI 0)]
theorem bX0_giveAlong_192_ok : z_ok cX0_giveAlong 192 bX0_giveAlong_192 194 = true := by decide +kernel
theorem iX0_giveAlong_192 (hr : z_run 7 bX0_giveAlong_192 ls st = some (ls', st')) (g : z_J Z mX0_giveAlong R k n Q 194 ls' st' h) : z_J Z mX0_giveAlong R k n Q 192 ls st h := z_jr bX0_giveAlong_192 bX0_giveAlong_192_ok hr g
theorem dX0_giveAlong_194 : decode cX0_giveAlong 194 = .ok (.ireturn, 1) := by decide +kernel
theorem iX0_giveAlong_194 (hk : k ≤ R.cells) (hs : n ≤ R.slots) (hq : Q (.inl (some (.int x))) h) : z_J Z mX0_giveAlong R k n Q 194 ls [.int x] h := z_iret (ty := .int) dX0_giveAlong_194 rfl rfl hk hs hq
/-! X0_isExchanged -/
def bX0_isExchanged_0 : zB := [(0, .aload_n 0, 1, nI 0)]
theorem bX0_isExchanged_0_ok : z_ok cX0_isExchanged 0 bX0_isExchanged_0 1 = true := by decide +kernel
theorem iX0_isExchanged_0 (hr : z_run 2 bX0_isExchanged_0 ls st = some (ls', st')) (g : z_J Z mX0_isExchanged R k n Q 1 ls' st' h) : z_J Z mX0_isExchanged R k n Q 0 ls st h := z_jr bX0_isExchanged_0 bX0_isExchanged_0_ok hr g
theorem dX0_isExchanged_1 : decode cX0_isExchanged 1 = .ok (.getfield 26, 3) := by decide +kernel
theorem iX0_isExchanged_1 (hh : h r = some (a, .inr (1, fs))) (hv : fs[5]? = some v) (g : z_J Z mX0_isExchanged R k n Q 4 ls (v :: st) h) : z_J Z mX0_isExchanged R k n Q 1 ls (.ref a :: st) h := z_get dX0_isExchanged_1 rfl fl_X0_26 hh hv g
def bX0_isExchanged_4 : zB := [(4, .iload_n 1, 5, nI 0)]
theorem bX0_isExchanged_4_ok : z_ok cX0_isExchanged 4 bX0_isExchanged_4 5 = true := by decide +kernel
theorem iX0_isExchanged_4 (hr : z_run 2 bX0_isExchanged_4 ls st = some (ls', st')) (g : z_J Z mX0_isExchanged R k n Q 5 ls' st' h) : z_J Z mX0_isExchanged R k n Q 4 ls st h := z_jr bX0_isExchanged_4 bX0_isExchanged_4_ok hr g
theorem dX0_isExchanged_5 : decode cX0_isExchanged 5 = .ok (.iaload, 1) := by decide +kernel
theorem iX0_isExchanged_5 {f : Nat → Int32} (hh : h r = some (a, .inl (0, N, .inl f))) (hi : i = nI j) (hj : j < N) (hN : N < 2 ^ 31) (g : z_J Z mX0_isExchanged R k n Q 6 ls (.int (f j) :: st) h) : z_J Z mX0_isExchanged R k n Q 5 ls (.int i :: .ref a :: st) h := z_iald dX0_isExchanged_5 rfl hh hi hj hN g
theorem dX0_isExchanged_6 : decode cX0_isExchanged 6 = .ok (.invokestatic 36, 3) := by decide +kernel
theorem iX0_isExchanged_6 (ha : z_args 1 st [] = some (As, rest)) (hc : z_chk rest As 1 = true) (hR : z_rm R R' 1 k n) (gc : z_J Z mX0_isRight R' 0 0 Q' 0 As [] h) (kr : ∀ (v : Option Value) (h' : zH), Q' (.inl v) h' → z_J Z mX0_isExchanged R (k + R'.cells) (n + R'.slots) Q 9 ls (v.toList ++ rest) h') (kx : ∀ (E : String) (h' : zH), Q' (.inr E) h' → z_JX Z mX0_isExchanged R (k + R'.cells) (n + R'.slots) Q 6 ls E h') : z_J Z mX0_isExchanged R k n Q 6 ls st h := z_callS (M' := mX0_isRight) dX0_isExchanged_6 rfl cs_X0_36 gw641 ha hR (z_chk1 hc) (z_chk2 hc) (z_chk3 hc) gc kr kx
theorem dX0_isExchanged_9 : decode cX0_isExchanged 9 = .ok (.ifCond .eq 29, 3) := by decide +kernel
theorem iX0_isExchanged_9 (kt : x = 0 → z_J Z mX0_isExchanged R k n Q 38 ls st h) (kf : ¬ x = 0 → z_J Z mX0_isExchanged R k n Q 12 ls st h) : z_J Z mX0_isExchanged R k n Q 9 ls (.int x :: st) h := z_if_eq dX0_isExchanged_9 (tgt := 38) (by decide) rfl kt kf
def bX0_isExchanged_12 : zB := [(12, .aload_n 0, 13, nI 0)]
theorem bX0_isExchanged_12_ok : z_ok cX0_isExchanged 12 bX0_isExchanged_12 13 = true := by decide +kernel
theorem iX0_isExchanged_12 (hr : z_run 2 bX0_isExchanged_12 ls st = some (ls', st')) (g : z_J Z mX0_isExchanged R k n Q 13 ls' st' h) : z_J Z mX0_isExchanged R k n Q 12 ls st h := z_jr bX0_isExchanged_12 bX0_isExchanged_12_ok hr g
theorem dX0_isExchanged_13 : decode cX0_isExchanged 13 = .ok (.getfield 29, 3) := by decide +kernel
theorem iX0_isExchanged_13 (hh : h r = some (a, .inr (1, fs))) (hv : fs[6]? = some v) (g : z_J Z mX0_isExchanged R k n Q 16 ls (v :: st) h) : z_J Z mX0_isExchanged R k n Q 13 ls (.ref a :: st) h := z_get dX0_isExchanged_13 rfl fl_X0_29 hh hv g
def bX0_isExchanged_16 : zB := [(16, .iload_n 1, 17, nI 0)]
theorem bX0_isExchanged_16_ok : z_ok cX0_isExchanged 16 bX0_isExchanged_16 17 = true := by decide +kernel
theorem iX0_isExchanged_16 (hr : z_run 2 bX0_isExchanged_16 ls st = some (ls', st')) (g : z_J Z mX0_isExchanged R k n Q 17 ls' st' h) : z_J Z mX0_isExchanged R k n Q 16 ls st h := z_jr bX0_isExchanged_16 bX0_isExchanged_16_ok hr g
theorem dX0_isExchanged_17 : decode cX0_isExchanged 17 = .ok (.iaload, 1) := by decide +kernel
theorem iX0_isExchanged_17 {f : Nat → Int32} (hh : h r = some (a, .inl (0, N, .inl f))) (hi : i = nI j) (hj : j < N) (hN : N < 2 ^ 31) (g : z_J Z mX0_isExchanged R k n Q 18 ls (.int (f j) :: st) h) : z_J Z mX0_isExchanged R k n Q 17 ls (.int i :: .ref a :: st) h := z_iald dX0_isExchanged_17 rfl hh hi hj hN g
theorem dX0_isExchanged_18 : decode cX0_isExchanged 18 = .ok (.ifCond .lt 20, 3) := by decide +kernel
theorem iX0_isExchanged_18 (kt : x < 0 → z_J Z mX0_isExchanged R k n Q 38 ls st h) (kf : ¬ x < 0 → z_J Z mX0_isExchanged R k n Q 21 ls st h) : z_J Z mX0_isExchanged R k n Q 18 ls (.int x :: st) h := z_if_lt dX0_isExchanged_18 (tgt := 38) (by decide) rfl kt kf
def bX0_isExchanged_21 : zB := [(21, .aload_n 0, 22, nI 0)]
theorem bX0_isExchanged_21_ok : z_ok cX0_isExchanged 21 bX0_isExchanged_21 22 = true := by decide +kernel
theorem iX0_isExchanged_21 (hr : z_run 2 bX0_isExchanged_21 ls st = some (ls', st')) (g : z_J Z mX0_isExchanged R k n Q 22 ls' st' h) : z_J Z mX0_isExchanged R k n Q 21 ls st h := z_jr bX0_isExchanged_21 bX0_isExchanged_21_ok hr g
theorem dX0_isExchanged_22 : decode cX0_isExchanged 22 = .ok (.getfield 29, 3) := by decide +kernel
theorem iX0_isExchanged_22 (hh : h r = some (a, .inr (1, fs))) (hv : fs[6]? = some v) (g : z_J Z mX0_isExchanged R k n Q 25 ls (v :: st) h) : z_J Z mX0_isExchanged R k n Q 22 ls (.ref a :: st) h := z_get dX0_isExchanged_22 rfl fl_X0_29 hh hv g
def bX0_isExchanged_25 : zB := [(25, .iload_n 1, 26, nI 0)]
theorem bX0_isExchanged_25_ok : z_ok cX0_isExchanged 25 bX0_isExchanged_25 26 = true := by decide +kernel
theorem iX0_isExchanged_25 (hr : z_run 2 bX0_isExchanged_25 ls st = some (ls', st')) (g : z_J Z mX0_isExchanged R k n Q 26 ls' st' h) : z_J Z mX0_isExchanged R k n Q 25 ls st h := z_jr bX0_isExchanged_25 bX0_isExchanged_25_ok hr g
theorem dX0_isExchanged_26 : decode cX0_isExchanged 26 = .ok (.iaload, 1) := by decide +kernel
theorem iX0_isExchanged_26 {f : Nat → Int32} (hh : h r = some (a, .inl (0, N, .inl f))) (hi : i = nI j) (hj : j < N) (hN : N < 2 ^ 31) (g : z_J Z mX0_isExchanged R k n Q 27 ls (.int (f j) :: st) h) : z_J Z mX0_isExchanged R k n Q 26 ls (.int i :: .ref a :: st) h := z_iald dX0_isExchanged_26 rfl hh hi hj hN g
def bX0_isExchanged_27 : zB := [(27, .aload_n 0, 28, nI 0)]
theorem bX0_isExchanged_27_ok : z_ok cX0_isExchanged 27 bX0_isExchanged_27 28 = true := by decide +kernel
theorem iX0_isExchanged_27 (hr : z_run 2 bX0_isExchanged_27 ls st = some (ls', st')) (g : z_J Z mX0_isExchanged R k n Q 28 ls' st' h) : z_J Z mX0_isExchanged R k n Q 27 ls st h := z_jr bX0_isExchanged_27 bX0_isExchanged_27_ok hr g
theorem dX0_isExchanged_28 : decode cX0_isExchanged 28 = .ok (.getfield 32, 3) := by decide +kernel
theorem iX0_isExchanged_28 (hh : h r = some (a, .inr (1, fs))) (hv : fs[3]? = some v) (g : z_J Z mX0_isExchanged R k n Q 31 ls (v :: st) h) : z_J Z mX0_isExchanged R k n Q 28 ls (.ref a :: st) h := z_get dX0_isExchanged_28 rfl fl_X0_32 hh hv g
theorem dX0_isExchanged_31 : decode cX0_isExchanged 31 = .ok (.if_icmp .ge 7, 3) := by decide +kernel
theorem iX0_isExchanged_31 (kt : y ≤ x → z_J Z mX0_isExchanged R k n Q 38 ls st h) (kf : ¬ y ≤ x → z_J Z mX0_isExchanged R k n Q 34 ls st h) : z_J Z mX0_isExchanged R k n Q 31 ls (.int y :: .int x :: st) h := z_ic_ge dX0_isExchanged_31 (tgt := 38) (by decide) rfl kt kf
def bX0_isExchanged_34 : zB := [(34, .iconst 1, 35, nI 1), (35, .goto 4, 39, nI 0)]
theorem bX0_isExchanged_34_ok : z_ok cX0_isExchanged 34 bX0_isExchanged_34 39 = true := by decide +kernel
theorem iX0_isExchanged_34 (hr : z_run 2 bX0_isExchanged_34 ls st = some (ls', st')) (g : z_J Z mX0_isExchanged R k n Q 39 ls' st' h) : z_J Z mX0_isExchanged R k n Q 34 ls st h := z_jr bX0_isExchanged_34 bX0_isExchanged_34_ok hr g
def bX0_isExchanged_38 : zB := [(38, .iconst 0, 39, nI 0)]
theorem bX0_isExchanged_38_ok : z_ok cX0_isExchanged 38 bX0_isExchanged_38 39 = true := by decide +kernel
theorem iX0_isExchanged_38 (hr : z_run 2 bX0_isExchanged_38 ls st = some (ls', st')) (g : z_J Z mX0_isExchanged R k n Q 39 ls' st' h) : z_J Z mX0_isExchanged R k n Q 38 ls st h := z_jr bX0_isExchanged_38 bX0_isExchanged_38_ok hr g
theorem dX0_isExchanged_39 : decode cX0_isExchanged 39 = .ok (.ireturn, 1) := by decide +kernel
theorem iX0_isExchanged_39 (hz : narrow .boolean (.int x) = .int x) (hk : k ≤ R.cells) (hs : n ≤ R.slots) (hq : Q (.inl (some (.int x))) h) : z_J Z mX0_isExchanged R k n Q 39 ls [.int x] h := z_iret (ty := .boolean) dX0_isExchanged_39 rfl hz hk hs hq
/-! X0_isRight -/
def bX0_isRight_0 : zB := [(0, .iload_n 0, 1, nI 0)]
theorem bX0_isRight_0_ok : z_ok cX0_isRight 0 bX0_isRight_0 1 = true := by decide +kernel
theorem iX0_isRight_0 (hr : z_run 1 bX0_isRight_0 ls st = some (ls', st')) (g : z_J Z mX0_isRight R k n Q 1 ls' st' h) : z_J Z mX0_isRight R k n Q 0 ls st h := z_jr bX0_isRight_0 bX0_isRight_0_ok hr g
theorem dX0_isRight_1 : decode cX0_isRight 1 = .ok (.ifCond .lt 13, 3) := by decide +kernel
theorem iX0_isRight_1 (kt : x < 0 → z_J Z mX0_isRight R k n Q 14 ls st h) (kf : ¬ x < 0 → z_J Z mX0_isRight R k n Q 4 ls st h) : z_J Z mX0_isRight R k n Q 1 ls (.int x :: st) h := z_if_lt dX0_isRight_1 (tgt := 14) (by decide) rfl kt kf
def bX0_isRight_4 : zB := [(4, .iload_n 0, 5, nI 0), (5, .bipush 10, 7, nI 10)]
theorem bX0_isRight_4_ok : z_ok cX0_isRight 4 bX0_isRight_4 7 = true := by decide +kernel
theorem iX0_isRight_4 (hr : z_run 1 bX0_isRight_4 ls st = some (ls', st')) (g : z_J Z mX0_isRight R k n Q 7 ls' st' h) : z_J Z mX0_isRight R k n Q 4 ls st h := z_jr bX0_isRight_4 bX0_isRight_4_ok hr g
theorem dX0_isRight_7 : decode cX0_isRight 7 = .ok (.if_icmp .ge 7, 3) := by decide +kernel
theorem iX0_isRight_7 (kt : y ≤ x → z_J Z mX0_isRight R k n Q 14 ls st h) (kf : ¬ y ≤ x → z_J Z mX0_isRight R k n Q 10 ls st h) : z_J Z mX0_isRight R k n Q 7 ls (.int y :: .int x :: st) h := z_ic_ge dX0_isRight_7 (tgt := 14) (by decide) rfl kt kf
def bX0_isRight_10 : zB := [(10, .iconst 1, 11, nI 1), (11, .goto 4, 15, nI 0)]
theorem bX0_isRight_10_ok : z_ok cX0_isRight 10 bX0_isRight_10 15 = true := by decide +kernel
theorem iX0_isRight_10 (hr : z_run 1 bX0_isRight_10 ls st = some (ls', st')) (g : z_J Z mX0_isRight R k n Q 15 ls' st' h) : z_J Z mX0_isRight R k n Q 10 ls st h := z_jr bX0_isRight_10 bX0_isRight_10_ok hr g
def bX0_isRight_14 : zB := [(14, .iconst 0, 15, nI 0)]
theorem bX0_isRight_14_ok : z_ok cX0_isRight 14 bX0_isRight_14 15 = true := by decide +kernel
theorem iX0_isRight_14 (hr : z_run 1 bX0_isRight_14 ls st = some (ls', st')) (g : z_J Z mX0_isRight R k n Q 15 ls' st' h) : z_J Z mX0_isRight R k n Q 14 ls st h := z_jr bX0_isRight_14 bX0_isRight_14_ok hr g
theorem dX0_isRight_15 : decode cX0_isRight 15 = .ok (.ireturn, 1) := by decide +kernel
theorem iX0_isRight_15 (hz : narrow .boolean (.int x) = .int x) (hk : k ≤ R.cells) (hs : n ≤ R.slots) (hq : Q (.inl (some (.int x))) h) : z_J Z mX0_isRight R k n Q 15 ls [.int x] h := z_iret (ty := .boolean) dX0_isRight_15 rfl hz hk hs hq
/-! X1_init -/
def bX1_init_0 : zB := [(0, .aload_n 0, 1, nI 0)]
theorem bX1_init_0_ok : z_ok cX1_init 0 bX1_init_0 1 = true := by decide +kernel
theorem iX1_init_0 (hr : z_run 1 bX1_init_0 ls st = some (ls', st')) (g : z_J Z mX1_init R k n Q 1 ls' st' h) : z_J Z mX1_init R k n Q 0 ls st h := z_jr bX1_init_0 bX1_init_0_ok hr g
theorem dX1_init_1 : decode cX1_init 1 = .ok (.invokespecial 3, 3) := by decide +kernel
theorem iX1_init_1 (hst : (st.map fun v => v.category).sum + 12 ≤ R.locals) (hf : 1 ≤ R.frames) (g : z_J Z mX1_init R k n Q 4 ls st h) : z_J Z mX1_init R k n Q 1 ls (.ref a :: st) h := z_objI dX1_init_1 rfl gw443 gw60 gw_objInit hst hf g
def bX1_init_4 : zB := [(4, .aload_n 0, 5, nI 0), (5, .bipush 10, 7, nI 10)]
theorem bX1_init_4_ok : z_ok cX1_init 4 bX1_init_4 7 = true := by decide +kernel
theorem iX1_init_4 (hr : z_run 1 bX1_init_4 ls st = some (ls', st')) (g : z_J Z mX1_init R k n Q 7 ls' st' h) : z_J Z mX1_init R k n Q 4 ls st h := z_jr bX1_init_4 bX1_init_4_ok hr g
theorem dX1_init_7 : decode cX1_init 7 = .ok (.newarray .int, 2) := by decide +kernel
theorem iX1_init_7 (r : Nat) (hi : i = nI N) (hN : N < 1000) (hR : k + 1 ≤ R.cells ∧ n + N ≤ R.slots) (g : ∀ q, z_J Z mX1_init R (k + 1) (n + N) Q 9 ls (.ref q :: st) (z_u h r (q, .inl (0, N, .inl (fun _ => 0))))) : z_J Z mX1_init R k n Q 7 ls (.int i :: st) h := z_newa r (ty := .int) (t := 0) (a0 := (N, .inl (fun _ => 0))) dX1_init_7 rfl rfl (fun _ => rfl) (fun _ q => by cases q) gw122 (fun _ => rfl) hi hN hR (by show N * 4 ≤ 536870912; omega) g
theorem dX1_init_9 : decode cX1_init 9 = .ok (.putfield 9, 3) := by decide +kernel
theorem iX1_init_9 (hh : h r = some (a, .inr (2, fs))) (hl : Nat.blt 0 fs.length = true) (g : z_J Z mX1_init R k n Q 12 ls st (z_u h r (a, .inr (2, fs.set 0 (.ref b))))) : z_J Z mX1_init R k n Q 9 ls ((.ref b) :: .ref a :: st) h := z_putF dX1_init_9 rfl fl_X1_9 fw_X1_0 rfl rfl rfl hh rfl rfl (by simpa [Nat.blt_eq] using hl) g
theorem iX1_init_9N (hh : h r = some (a, .inr (2, fs))) (hl : Nat.blt 0 fs.length = true) (g : z_J Z mX1_init R k n Q 12 ls st (z_u h r (a, .inr (2, fs.set 0 (.null))))) : z_J Z mX1_init R k n Q 9 ls ((.null) :: .ref a :: st) h := z_putF dX1_init_9 rfl fl_X1_9 fw_X1_0 rfl rfl rfl hh rfl rfl (by simpa [Nat.blt_eq] using hl) g
def bX1_init_12 : zB := [(12, .aload_n 0, 13, nI 0), (13, .bipush 10, 15, nI 10)]
theorem bX1_init_12_ok : z_ok cX1_init 12 bX1_init_12 15 = true := by decide +kernel
theorem iX1_init_12 (hr : z_run 1 bX1_init_12 ls st = some (ls', st')) (g : z_J Z mX1_init R k n Q 15 ls' st' h) : z_J Z mX1_init R k n Q 12 ls st h := z_jr bX1_init_12 bX1_init_12_ok hr g
theorem dX1_init_15 : decode cX1_init 15 = .ok (.newarray .int, 2) := by decide +kernel
theorem iX1_init_15 (r : Nat) (hi : i = nI N) (hN : N < 1000) (hR : k + 1 ≤ R.cells ∧ n + N ≤ R.slots) (g : ∀ q, z_J Z mX1_init R (k + 1) (n + N) Q 17 ls (.ref q :: st) (z_u h r (q, .inl (0, N, .inl (fun _ => 0))))) : z_J Z mX1_init R k n Q 15 ls (.int i :: st) h := z_newa r (ty := .int) (t := 0) (a0 := (N, .inl (fun _ => 0))) dX1_init_15 rfl rfl (fun _ => rfl) (fun _ q => by cases q) gw122 (fun _ => rfl) hi hN hR (by show N * 4 ≤ 536870912; omega) g
theorem dX1_init_17 : decode cX1_init 17 = .ok (.putfield 15, 3) := by decide +kernel
theorem iX1_init_17 (hh : h r = some (a, .inr (2, fs))) (hl : Nat.blt 1 fs.length = true) (g : z_J Z mX1_init R k n Q 20 ls st (z_u h r (a, .inr (2, fs.set 1 (.ref b))))) : z_J Z mX1_init R k n Q 17 ls ((.ref b) :: .ref a :: st) h := z_putF dX1_init_17 rfl fl_X1_15 fw_X1_1 rfl rfl rfl hh rfl rfl (by simpa [Nat.blt_eq] using hl) g
theorem iX1_init_17N (hh : h r = some (a, .inr (2, fs))) (hl : Nat.blt 1 fs.length = true) (g : z_J Z mX1_init R k n Q 20 ls st (z_u h r (a, .inr (2, fs.set 1 (.null))))) : z_J Z mX1_init R k n Q 17 ls ((.null) :: .ref a :: st) h := z_putF dX1_init_17 rfl fl_X1_15 fw_X1_1 rfl rfl rfl hh rfl rfl (by simpa [Nat.blt_eq] using hl) g
def bX1_init_20 : zB := [(20, .aload_n 0, 21, nI 0), (21, .bipush 10, 23, nI 10)]
theorem bX1_init_20_ok : z_ok cX1_init 20 bX1_init_20 23 = true := by decide +kernel
theorem iX1_init_20 (hr : z_run 1 bX1_init_20 ls st = some (ls', st')) (g : z_J Z mX1_init R k n Q 23 ls' st' h) : z_J Z mX1_init R k n Q 20 ls st h := z_jr bX1_init_20 bX1_init_20_ok hr g
theorem dX1_init_23 : decode cX1_init 23 = .ok (.newarray .int, 2) := by decide +kernel
theorem iX1_init_23 (r : Nat) (hi : i = nI N) (hN : N < 1000) (hR : k + 1 ≤ R.cells ∧ n + N ≤ R.slots) (g : ∀ q, z_J Z mX1_init R (k + 1) (n + N) Q 25 ls (.ref q :: st) (z_u h r (q, .inl (0, N, .inl (fun _ => 0))))) : z_J Z mX1_init R k n Q 23 ls (.int i :: st) h := z_newa r (ty := .int) (t := 0) (a0 := (N, .inl (fun _ => 0))) dX1_init_23 rfl rfl (fun _ => rfl) (fun _ q => by cases q) gw122 (fun _ => rfl) hi hN hR (by show N * 4 ≤ 536870912; omega) g
theorem dX1_init_25 : decode cX1_init 25 = .ok (.putfield 18, 3) := by decide +kernel
theorem iX1_init_25 (hh : h r = some (a, .inr (2, fs))) (hl : Nat.blt 2 fs.length = true) (g : z_J Z mX1_init R k n Q 28 ls st (z_u h r (a, .inr (2, fs.set 2 (.ref b))))) : z_J Z mX1_init R k n Q 25 ls ((.ref b) :: .ref a :: st) h := z_putF dX1_init_25 rfl fl_X1_18 fw_X1_2 rfl rfl rfl hh rfl rfl (by simpa [Nat.blt_eq] using hl) g
theorem iX1_init_25N (hh : h r = some (a, .inr (2, fs))) (hl : Nat.blt 2 fs.length = true) (g : z_J Z mX1_init R k n Q 28 ls st (z_u h r (a, .inr (2, fs.set 2 (.null))))) : z_J Z mX1_init R k n Q 25 ls ((.null) :: .ref a :: st) h := z_putF dX1_init_25 rfl fl_X1_18 fw_X1_2 rfl rfl rfl hh rfl rfl (by simpa [Nat.blt_eq] using hl) g
theorem dX1_init_28 : decode cX1_init 28 = .ok (.return_, 1) := by decide +kernel
theorem iX1_init_28 (hk : k ≤ R.cells) (hs : n ≤ R.slots) (hq : Q (.inl none) h) : z_J Z mX1_init R k n Q 28 ls [] h := z_vret dX1_init_28 rfl hk hs hq
/-! X1_isFull -/
def bX1_isFull_0 : zB := [(0, .aload_n 0, 1, nI 0)]
theorem bX1_isFull_0_ok : z_ok cX1_isFull 0 bX1_isFull_0 1 = true := by decide +kernel
theorem iX1_isFull_0 (hr : z_run 1 bX1_isFull_0 ls st = some (ls', st')) (g : z_J Z mX1_isFull R k n Q 1 ls' st' h) : z_J Z mX1_isFull R k n Q 0 ls st h := z_jr bX1_isFull_0 bX1_isFull_0_ok hr g
theorem dX1_isFull_1 : decode cX1_isFull 1 = .ok (.getfield 21, 3) := by decide +kernel
theorem iX1_isFull_1 (hh : h r = some (a, .inr (2, fs))) (hv : fs[3]? = some v) (g : z_J Z mX1_isFull R k n Q 4 ls (v :: st) h) : z_J Z mX1_isFull R k n Q 1 ls (.ref a :: st) h := z_get dX1_isFull_1 rfl fl_X1_21 hh hv g
def bX1_isFull_4 : zB := [(4, .bipush 10, 6, nI 10)]
theorem bX1_isFull_4_ok : z_ok cX1_isFull 4 bX1_isFull_4 6 = true := by decide +kernel
theorem iX1_isFull_4 (hr : z_run 1 bX1_isFull_4 ls st = some (ls', st')) (g : z_J Z mX1_isFull R k n Q 6 ls' st' h) : z_J Z mX1_isFull R k n Q 4 ls st h := z_jr bX1_isFull_4 bX1_isFull_4_ok hr g
theorem dX1_isFull_6 : decode cX1_isFull 6 = .ok (.if_icmp .lt 7, 3) := by decide +kernel
theorem iX1_isFull_6 (kt : x < y → z_J Z mX1_isFull R k n Q 13 ls st h) (kf : ¬ x < y → z_J Z mX1_isFull R k n Q 9 ls st h) : z_J Z mX1_isFull R k n Q 6 ls (.int y :: .int x :: st) h := z_ic_lt dX1_isFull_6 (tgt := 13) (by decide) rfl kt kf
def bX1_isFull_9 : zB := [(9, .iconst 1, 10, nI 1), (10, .goto 4, 14, nI 0)]
theorem bX1_isFull_9_ok : z_ok cX1_isFull 9 bX1_isFull_9 14 = true := by decide +kernel
theorem iX1_isFull_9 (hr : z_run 1 bX1_isFull_9 ls st = some (ls', st')) (g : z_J Z mX1_isFull R k n Q 14 ls' st' h) : z_J Z mX1_isFull R k n Q 9 ls st h := z_jr bX1_isFull_9 bX1_isFull_9_ok hr g
def bX1_isFull_13 : zB := [(13, .iconst 0, 14, nI 0)]
theorem bX1_isFull_13_ok : z_ok cX1_isFull 13 bX1_isFull_13 14 = true := by decide +kernel
theorem iX1_isFull_13 (hr : z_run 1 bX1_isFull_13 ls st = some (ls', st')) (g : z_J Z mX1_isFull R k n Q 14 ls' st' h) : z_J Z mX1_isFull R k n Q 13 ls st h := z_jr bX1_isFull_13 bX1_isFull_13_ok hr g
theorem dX1_isFull_14 : decode cX1_isFull 14 = .ok (.ireturn, 1) := by decide +kernel
theorem iX1_isFull_14 (hz : narrow .boolean (.int x) = .int x) (hk : k ≤ R.cells) (hs : n ≤ R.slots) (hq : Q (.inl (some (.int x))) h) : z_J Z mX1_isFull R k n Q 14 ls [.int x] h := z_iret (ty := .boolean) dX1_isFull_14 rfl hz hk hs hq
/-! X1_isOpen -/
def bX1_isOpen_0 : zB := [(0, .aload_n 0, 1, nI 0)]
theorem bX1_isOpen_0_ok : z_ok cX1_isOpen 0 bX1_isOpen_0 1 = true := by decide +kernel
theorem iX1_isOpen_0 (hr : z_run 1 bX1_isOpen_0 ls st = some (ls', st')) (g : z_J Z mX1_isOpen R k n Q 1 ls' st' h) : z_J Z mX1_isOpen R k n Q 0 ls st h := z_jr bX1_isOpen_0 bX1_isOpen_0_ok hr g
theorem dX1_isOpen_1 : decode cX1_isOpen 1 = .ok (.getfield 21, 3) := by decide +kernel
theorem iX1_isOpen_1 (hh : h r = some (a, .inr (2, fs))) (hv : fs[3]? = some v) (g : z_J Z mX1_isOpen R k n Q 4 ls (v :: st) h) : z_J Z mX1_isOpen R k n Q 1 ls (.ref a :: st) h := z_get dX1_isOpen_1 rfl fl_X1_21 hh hv g
theorem dX1_isOpen_4 : decode cX1_isOpen 4 = .ok (.ifCond .le 24, 3) := by decide +kernel
theorem iX1_isOpen_4 (kt : x ≤ 0 → z_J Z mX1_isOpen R k n Q 28 ls st h) (kf : ¬ x ≤ 0 → z_J Z mX1_isOpen R k n Q 7 ls st h) : z_J Z mX1_isOpen R k n Q 4 ls (.int x :: st) h := z_if_le dX1_isOpen_4 (tgt := 28) (by decide) rfl kt kf
def bX1_isOpen_7 : zB := [(7, .aload_n 0, 8, nI 0)]
theorem bX1_isOpen_7_ok : z_ok cX1_isOpen 7 bX1_isOpen_7 8 = true := by decide +kernel
theorem iX1_isOpen_7 (hr : z_run 1 bX1_isOpen_7 ls st = some (ls', st')) (g : z_J Z mX1_isOpen R k n Q 8 ls' st' h) : z_J Z mX1_isOpen R k n Q 7 ls st h := z_jr bX1_isOpen_7 bX1_isOpen_7_ok hr g
theorem dX1_isOpen_8 : decode cX1_isOpen 8 = .ok (.getfield 18, 3) := by decide +kernel
theorem iX1_isOpen_8 (hh : h r = some (a, .inr (2, fs))) (hv : fs[2]? = some v) (g : z_J Z mX1_isOpen R k n Q 11 ls (v :: st) h) : z_J Z mX1_isOpen R k n Q 8 ls (.ref a :: st) h := z_get dX1_isOpen_8 rfl fl_X1_18 hh hv g
def bX1_isOpen_11 : zB := [(11, .aload_n 0, 12, nI 0)]
theorem bX1_isOpen_11_ok : z_ok cX1_isOpen 11 bX1_isOpen_11 12 = true := by decide +kernel
theorem iX1_isOpen_11 (hr : z_run 1 bX1_isOpen_11 ls st = some (ls', st')) (g : z_J Z mX1_isOpen R k n Q 12 ls' st' h) : z_J Z mX1_isOpen R k n Q 11 ls st h := z_jr bX1_isOpen_11 bX1_isOpen_11_ok hr g
theorem dX1_isOpen_12 : decode cX1_isOpen 12 = .ok (.getfield 21, 3) := by decide +kernel
theorem iX1_isOpen_12 (hh : h r = some (a, .inr (2, fs))) (hv : fs[3]? = some v) (g : z_J Z mX1_isOpen R k n Q 15 ls (v :: st) h) : z_J Z mX1_isOpen R k n Q 12 ls (.ref a :: st) h := z_get dX1_isOpen_12 rfl fl_X1_21 hh hv g
def bX1_isOpen_15 : zB := [(15, .iconst 1, 16, nI 1), (16, .isub, 17, nI 0)]
theorem bX1_isOpen_15_ok : z_ok cX1_isOpen 15 bX1_isOpen_15 17 = true := by decide +kernel
theorem iX1_isOpen_15 (hr : z_run 1 bX1_isOpen_15 ls st = some (ls', st')) (g : z_J Z mX1_isOpen R k n Q 17 ls' st' h) : z_J Z mX1_isOpen R k n Q 15 ls st h := z_jr bX1_isOpen_15 bX1_isOpen_15_ok hr g
theorem dX1_isOpen_17 : decode cX1_isOpen 17 = .ok (.iaload, 1) := by decide +kernel
theorem iX1_isOpen_17 {f : Nat → Int32} (hh : h r = some (a, .inl (0, N, .inl f))) (hi : i = nI j) (hj : j < N) (hN : N < 2 ^ 31) (g : z_J Z mX1_isOpen R k n Q 18 ls (.int (f j) :: st) h) : z_J Z mX1_isOpen R k n Q 17 ls (.int i :: .ref a :: st) h := z_iald dX1_isOpen_17 rfl hh hi hj hN g
def bX1_isOpen_18 : zB := [(18, .sipush 721, 21, nI 721)]
theorem bX1_isOpen_18_ok : z_ok cX1_isOpen 18 bX1_isOpen_18 21 = true := by decide +kernel
theorem iX1_isOpen_18 (hr : z_run 1 bX1_isOpen_18 ls st = some (ls', st')) (g : z_J Z mX1_isOpen R k n Q 21 ls' st' h) : z_J Z mX1_isOpen R k n Q 18 ls st h := z_jr bX1_isOpen_18 bX1_isOpen_18_ok hr g
theorem dX1_isOpen_21 : decode cX1_isOpen 21 = .ok (.if_icmp .ne 7, 3) := by decide +kernel
theorem iX1_isOpen_21 (kt : ¬ x = y → z_J Z mX1_isOpen R k n Q 28 ls st h) (kf : x = y → z_J Z mX1_isOpen R k n Q 24 ls st h) : z_J Z mX1_isOpen R k n Q 21 ls (.int y :: .int x :: st) h := z_ic_ne dX1_isOpen_21 (tgt := 28) (by decide) rfl kt kf
def bX1_isOpen_24 : zB := [(24, .iconst 1, 25, nI 1), (25, .goto 4, 29, nI 0)]
theorem bX1_isOpen_24_ok : z_ok cX1_isOpen 24 bX1_isOpen_24 29 = true := by decide +kernel
theorem iX1_isOpen_24 (hr : z_run 1 bX1_isOpen_24 ls st = some (ls', st')) (g : z_J Z mX1_isOpen R k n Q 29 ls' st' h) : z_J Z mX1_isOpen R k n Q 24 ls st h := z_jr bX1_isOpen_24 bX1_isOpen_24_ok hr g
def bX1_isOpen_28 : zB := [(28, .iconst 0, 29, nI 0)]
theorem bX1_isOpen_28_ok : z_ok cX1_isOpen 28 bX1_isOpen_28 29 = true := by decide +kernel
theorem iX1_isOpen_28 (hr : z_run 1 bX1_isOpen_28 ls st = some (ls', st')) (g : z_J Z mX1_isOpen R k n Q 29 ls' st' h) : z_J Z mX1_isOpen R k n Q 28 ls st h := z_jr bX1_isOpen_28 bX1_isOpen_28_ok hr g
theorem dX1_isOpen_29 : decode cX1_isOpen 29 = .ok (.ireturn, 1) := by decide +kernel
theorem iX1_isOpen_29 (hz : narrow .boolean (.int x) = .int x) (hk : k ≤ R.cells) (hs : n ≤ R.slots) (hq : Q (.inl (some (.int x))) h) : z_J Z mX1_isOpen R k n Q 29 ls [.int x] h := z_iret (ty := .boolean) dX1_isOpen_29 rfl hz hk hs hq
/-! X1_lastChange -/
def bX1_lastChange_0 : zB := [(0, .aload_n 0, 1, nI 0)]
theorem bX1_lastChange_0_ok : z_ok cX1_lastChange 0 bX1_lastChange_0 1 = true := by decide +kernel
theorem iX1_lastChange_0 (hr : z_run 1 bX1_lastChange_0 ls st = some (ls', st')) (g : z_J Z mX1_lastChange R k n Q 1 ls' st' h) : z_J Z mX1_lastChange R k n Q 0 ls st h := z_jr bX1_lastChange_0 bX1_lastChange_0_ok hr g
theorem dX1_lastChange_1 : decode cX1_lastChange 1 = .ok (.getfield 21, 3) := by decide +kernel
theorem iX1_lastChange_1 (hh : h r = some (a, .inr (2, fs))) (hv : fs[3]? = some v) (g : z_J Z mX1_lastChange R k n Q 4 ls (v :: st) h) : z_J Z mX1_lastChange R k n Q 1 ls (.ref a :: st) h := z_get dX1_lastChange_1 rfl fl_X1_21 hh hv g
theorem dX1_lastChange_4 : decode cX1_lastChange 4 = .ok (.ifCond .ne 5, 3) := by decide +kernel
theorem iX1_lastChange_4 (kt : ¬ x = 0 → z_J Z mX1_lastChange R k n Q 9 ls st h) (kf : x = 0 → z_J Z mX1_lastChange R k n Q 7 ls st h) : z_J Z mX1_lastChange R k n Q 4 ls (.int x :: st) h := z_if_ne dX1_lastChange_4 (tgt := 9) (by decide) rfl kt kf
def bX1_lastChange_7 : zB := [(7, .iconst (-1), 8, -1)]
theorem bX1_lastChange_7_ok : z_ok cX1_lastChange 7 bX1_lastChange_7 8 = true := by decide +kernel
theorem iX1_lastChange_7 (hr : z_run 1 bX1_lastChange_7 ls st = some (ls', st')) (g : z_J Z mX1_lastChange R k n Q 8 ls' st' h) : z_J Z mX1_lastChange R k n Q 7 ls st h := z_jr bX1_lastChange_7 bX1_lastChange_7_ok hr g
theorem dX1_lastChange_8 : decode cX1_lastChange 8 = .ok (.ireturn, 1) := by decide +kernel
theorem iX1_lastChange_8 (hk : k ≤ R.cells) (hs : n ≤ R.slots) (hq : Q (.inl (some (.int x))) h) : z_J Z mX1_lastChange R k n Q 8 ls [.int x] h := z_iret (ty := .int) dX1_lastChange_8 rfl rfl hk hs hq
def bX1_lastChange_9 : zB := [(9, .aload_n 0, 10, nI 0)]
theorem bX1_lastChange_9_ok : z_ok cX1_lastChange 9 bX1_lastChange_9 10 = true := by decide +kernel
theorem iX1_lastChange_9 (hr : z_run 1 bX1_lastChange_9 ls st = some (ls', st')) (g : z_J Z mX1_lastChange R k n Q 10 ls' st' h) : z_J Z mX1_lastChange R k n Q 9 ls st h := z_jr bX1_lastChange_9 bX1_lastChange_9_ok hr g
theorem dX1_lastChange_10 : decode cX1_lastChange 10 = .ok (.invokevirtual 25, 3) := by decide +kernel
theorem iX1_lastChange_10 (ha : z_args 0 st [] = some (As, .ref b :: rest)) (hc : z_chk rest (.ref b :: As) 1 = true) (hh : h r = some (b, .inr (2, fs))) (hR : z_rm R R' 1 k n) (gc : z_J Z mX1_isOpen R' 0 0 Q' 0 (.ref b :: As) [] h) (kr : ∀ (v : Option Value) (h' : zH), Q' (.inl v) h' → z_J Z mX1_lastChange R (k + R'.cells) (n + R'.slots) Q 13 ls (v.toList ++ rest) h') (kx : ∀ (E : String) (h' : zH), Q' (.inr E) h' → z_JX Z mX1_lastChange R (k + R'.cells) (n + R'.slots) Q 10 ls E h') : z_J Z mX1_lastChange R k n Q 10 ls st h := z_callV (M' := mX1_isOpen) dX1_lastChange_10 rfl cs_X1_25 rfl gw529 gw530 ha hh (ci := 2) rfl hR (z_chk1 hc) (z_chk2 hc) (z_chk3 hc) gc kr kx
theorem dX1_lastChange_13 : decode cX1_lastChange 13 = .ok (.ifCond .eq 17, 3) := by decide +kernel
theorem iX1_lastChange_13 (kt : x = 0 → z_J Z mX1_lastChange R k n Q 30 ls st h) (kf : ¬ x = 0 → z_J Z mX1_lastChange R k n Q 16 ls st h) : z_J Z mX1_lastChange R k n Q 13 ls (.int x :: st) h := z_if_eq dX1_lastChange_13 (tgt := 30) (by decide) rfl kt kf
def bX1_lastChange_16 : zB := [(16, .aload_n 0, 17, nI 0)]
theorem bX1_lastChange_16_ok : z_ok cX1_lastChange 16 bX1_lastChange_16 17 = true := by decide +kernel
theorem iX1_lastChange_16 (hr : z_run 1 bX1_lastChange_16 ls st = some (ls', st')) (g : z_J Z mX1_lastChange R k n Q 17 ls' st' h) : z_J Z mX1_lastChange R k n Q 16 ls st h := z_jr bX1_lastChange_16 bX1_lastChange_16_ok hr g
theorem dX1_lastChange_17 : decode cX1_lastChange 17 = .ok (.getfield 15, 3) := by decide +kernel
theorem iX1_lastChange_17 (hh : h r = some (a, .inr (2, fs))) (hv : fs[1]? = some v) (g : z_J Z mX1_lastChange R k n Q 20 ls (v :: st) h) : z_J Z mX1_lastChange R k n Q 17 ls (.ref a :: st) h := z_get dX1_lastChange_17 rfl fl_X1_15 hh hv g
def bX1_lastChange_20 : zB := [(20, .aload_n 0, 21, nI 0)]
theorem bX1_lastChange_20_ok : z_ok cX1_lastChange 20 bX1_lastChange_20 21 = true := by decide +kernel
theorem iX1_lastChange_20 (hr : z_run 1 bX1_lastChange_20 ls st = some (ls', st')) (g : z_J Z mX1_lastChange R k n Q 21 ls' st' h) : z_J Z mX1_lastChange R k n Q 20 ls st h := z_jr bX1_lastChange_20 bX1_lastChange_20_ok hr g
theorem dX1_lastChange_21 : decode cX1_lastChange 21 = .ok (.getfield 21, 3) := by decide +kernel
theorem iX1_lastChange_21 (hh : h r = some (a, .inr (2, fs))) (hv : fs[3]? = some v) (g : z_J Z mX1_lastChange R k n Q 24 ls (v :: st) h) : z_J Z mX1_lastChange R k n Q 21 ls (.ref a :: st) h := z_get dX1_lastChange_21 rfl fl_X1_21 hh hv g
def bX1_lastChange_24 : zB := [(24, .iconst 1, 25, nI 1), (25, .isub, 26, nI 0)]
theorem bX1_lastChange_24_ok : z_ok cX1_lastChange 24 bX1_lastChange_24 26 = true := by decide +kernel
theorem iX1_lastChange_24 (hr : z_run 1 bX1_lastChange_24 ls st = some (ls', st')) (g : z_J Z mX1_lastChange R k n Q 26 ls' st' h) : z_J Z mX1_lastChange R k n Q 24 ls st h := z_jr bX1_lastChange_24 bX1_lastChange_24_ok hr g
theorem dX1_lastChange_26 : decode cX1_lastChange 26 = .ok (.iaload, 1) := by decide +kernel
theorem iX1_lastChange_26 {f : Nat → Int32} (hh : h r = some (a, .inl (0, N, .inl f))) (hi : i = nI j) (hj : j < N) (hN : N < 2 ^ 31) (g : z_J Z mX1_lastChange R k n Q 27 ls (.int (f j) :: st) h) : z_J Z mX1_lastChange R k n Q 26 ls (.int i :: .ref a :: st) h := z_iald dX1_lastChange_26 rfl hh hi hj hN g
def bX1_lastChange_27 : zB := [(27, .goto 14, 41, nI 0)]
theorem bX1_lastChange_27_ok : z_ok cX1_lastChange 27 bX1_lastChange_27 41 = true := by decide +kernel
theorem iX1_lastChange_27 (hr : z_run 1 bX1_lastChange_27 ls st = some (ls', st')) (g : z_J Z mX1_lastChange R k n Q 41 ls' st' h) : z_J Z mX1_lastChange R k n Q 27 ls st h := z_jr bX1_lastChange_27 bX1_lastChange_27_ok hr g
def bX1_lastChange_30 : zB := [(30, .aload_n 0, 31, nI 0)]
theorem bX1_lastChange_30_ok : z_ok cX1_lastChange 30 bX1_lastChange_30 31 = true := by decide +kernel
theorem iX1_lastChange_30 (hr : z_run 1 bX1_lastChange_30 ls st = some (ls', st')) (g : z_J Z mX1_lastChange R k n Q 31 ls' st' h) : z_J Z mX1_lastChange R k n Q 30 ls st h := z_jr bX1_lastChange_30 bX1_lastChange_30_ok hr g
theorem dX1_lastChange_31 : decode cX1_lastChange 31 = .ok (.getfield 18, 3) := by decide +kernel
theorem iX1_lastChange_31 (hh : h r = some (a, .inr (2, fs))) (hv : fs[2]? = some v) (g : z_J Z mX1_lastChange R k n Q 34 ls (v :: st) h) : z_J Z mX1_lastChange R k n Q 31 ls (.ref a :: st) h := z_get dX1_lastChange_31 rfl fl_X1_18 hh hv g
def bX1_lastChange_34 : zB := [(34, .aload_n 0, 35, nI 0)]
theorem bX1_lastChange_34_ok : z_ok cX1_lastChange 34 bX1_lastChange_34 35 = true := by decide +kernel
theorem iX1_lastChange_34 (hr : z_run 1 bX1_lastChange_34 ls st = some (ls', st')) (g : z_J Z mX1_lastChange R k n Q 35 ls' st' h) : z_J Z mX1_lastChange R k n Q 34 ls st h := z_jr bX1_lastChange_34 bX1_lastChange_34_ok hr g
theorem dX1_lastChange_35 : decode cX1_lastChange 35 = .ok (.getfield 21, 3) := by decide +kernel
theorem iX1_lastChange_35 (hh : h r = some (a, .inr (2, fs))) (hv : fs[3]? = some v) (g : z_J Z mX1_lastChange R k n Q 38 ls (v :: st) h) : z_J Z mX1_lastChange R k n Q 35 ls (.ref a :: st) h := z_get dX1_lastChange_35 rfl fl_X1_21 hh hv g
def bX1_lastChange_38 : zB := [(38, .iconst 1, 39, nI 1), (39, .isub, 40, nI 0)]
theorem bX1_lastChange_38_ok : z_ok cX1_lastChange 38 bX1_lastChange_38 40 = true := by decide +kernel
theorem iX1_lastChange_38 (hr : z_run 1 bX1_lastChange_38 ls st = some (ls', st')) (g : z_J Z mX1_lastChange R k n Q 40 ls' st' h) : z_J Z mX1_lastChange R k n Q 38 ls st h := z_jr bX1_lastChange_38 bX1_lastChange_38_ok hr g
theorem dX1_lastChange_40 : decode cX1_lastChange 40 = .ok (.iaload, 1) := by decide +kernel
theorem iX1_lastChange_40 {f : Nat → Int32} (hh : h r = some (a, .inl (0, N, .inl f))) (hi : i = nI j) (hj : j < N) (hN : N < 2 ^ 31) (g : z_J Z mX1_lastChange R k n Q 41 ls (.int (f j) :: st) h) : z_J Z mX1_lastChange R k n Q 40 ls (.int i :: .ref a :: st) h := z_iald dX1_lastChange_40 rfl hh hi hj hN g
theorem dX1_lastChange_41 : decode cX1_lastChange 41 = .ok (.ireturn, 1) := by decide +kernel
theorem iX1_lastChange_41 (hk : k ≤ R.cells) (hs : n ≤ R.slots) (hq : Q (.inl (some (.int x))) h) : z_J Z mX1_lastChange R k n Q 41 ls [.int x] h := z_iret (ty := .int) dX1_lastChange_41 rfl rfl hk hs hq
/-! X1_begin -/
def bX1_begin_0 : zB := [(0, .aload_n 0, 1, nI 0)]
theorem bX1_begin_0_ok : z_ok cX1_begin 0 bX1_begin_0 1 = true := by decide +kernel
theorem iX1_begin_0 (hr : z_run 3 bX1_begin_0 ls st = some (ls', st')) (g : z_J Z mX1_begin R k n Q 1 ls' st' h) : z_J Z mX1_begin R k n Q 0 ls st h := z_jr bX1_begin_0 bX1_begin_0_ok hr g
theorem dX1_begin_1 : decode cX1_begin 1 = .ok (.invokevirtual 29, 3) := by decide +kernel
theorem iX1_begin_1 (ha : z_args 0 st [] = some (As, .ref b :: rest)) (hc : z_chk rest (.ref b :: As) 1 = true) (hh : h r = some (b, .inr (2, fs))) (hR : z_rm R R' 1 k n) (gc : z_J Z mX1_isFull R' 0 0 Q' 0 (.ref b :: As) [] h) (kr : ∀ (v : Option Value) (h' : zH), Q' (.inl v) h' → z_J Z mX1_begin R (k + R'.cells) (n + R'.slots) Q 4 ls (v.toList ++ rest) h') (kx : ∀ (E : String) (h' : zH), Q' (.inr E) h' → z_JX Z mX1_begin R (k + R'.cells) (n + R'.slots) Q 1 ls E h') : z_J Z mX1_begin R k n Q 1 ls st h := z_callV (M' := mX1_isFull) dX1_begin_1 rfl cs_X1_29 rfl gw521 gw522 ha hh (ci := 2) rfl hR (z_chk1 hc) (z_chk2 hc) (z_chk3 hc) gc kr kx
theorem dX1_begin_4 : decode cX1_begin 4 = .ok (.ifCond .eq 4, 3) := by decide +kernel
theorem iX1_begin_4 (kt : x = 0 → z_J Z mX1_begin R k n Q 8 ls st h) (kf : ¬ x = 0 → z_J Z mX1_begin R k n Q 7 ls st h) : z_J Z mX1_begin R k n Q 4 ls (.int x :: st) h := z_if_eq dX1_begin_4 (tgt := 8) (by decide) rfl kt kf
theorem dX1_begin_7 : decode cX1_begin 7 = .ok (.return_, 1) := by decide +kernel
theorem iX1_begin_7 (hk : k ≤ R.cells) (hs : n ≤ R.slots) (hq : Q (.inl none) h) : z_J Z mX1_begin R k n Q 7 ls [] h := z_vret dX1_begin_7 rfl hk hs hq
def bX1_begin_8 : zB := [(8, .aload_n 0, 9, nI 0)]
theorem bX1_begin_8_ok : z_ok cX1_begin 8 bX1_begin_8 9 = true := by decide +kernel
theorem iX1_begin_8 (hr : z_run 3 bX1_begin_8 ls st = some (ls', st')) (g : z_J Z mX1_begin R k n Q 9 ls' st' h) : z_J Z mX1_begin R k n Q 8 ls st h := z_jr bX1_begin_8 bX1_begin_8_ok hr g
theorem dX1_begin_9 : decode cX1_begin 9 = .ok (.getfield 9, 3) := by decide +kernel
theorem iX1_begin_9 (hh : h r = some (a, .inr (2, fs))) (hv : fs[0]? = some v) (g : z_J Z mX1_begin R k n Q 12 ls (v :: st) h) : z_J Z mX1_begin R k n Q 9 ls (.ref a :: st) h := z_get dX1_begin_9 rfl fl_X1_9 hh hv g
def bX1_begin_12 : zB := [(12, .aload_n 0, 13, nI 0)]
theorem bX1_begin_12_ok : z_ok cX1_begin 12 bX1_begin_12 13 = true := by decide +kernel
theorem iX1_begin_12 (hr : z_run 3 bX1_begin_12 ls st = some (ls', st')) (g : z_J Z mX1_begin R k n Q 13 ls' st' h) : z_J Z mX1_begin R k n Q 12 ls st h := z_jr bX1_begin_12 bX1_begin_12_ok hr g
theorem dX1_begin_13 : decode cX1_begin 13 = .ok (.getfield 21, 3) := by decide +kernel
theorem iX1_begin_13 (hh : h r = some (a, .inr (2, fs))) (hv : fs[3]? = some v) (g : z_J Z mX1_begin R k n Q 16 ls (v :: st) h) : z_J Z mX1_begin R k n Q 13 ls (.ref a :: st) h := z_get dX1_begin_13 rfl fl_X1_21 hh hv g
def bX1_begin_16 : zB := [(16, .iload_n 1, 17, nI 0)]
theorem bX1_begin_16_ok : z_ok cX1_begin 16 bX1_begin_16 17 = true := by decide +kernel
theorem iX1_begin_16 (hr : z_run 3 bX1_begin_16 ls st = some (ls', st')) (g : z_J Z mX1_begin R k n Q 17 ls' st' h) : z_J Z mX1_begin R k n Q 16 ls st h := z_jr bX1_begin_16 bX1_begin_16_ok hr g
theorem dX1_begin_17 : decode cX1_begin 17 = .ok (.iastore, 1) := by decide +kernel
theorem iX1_begin_17 {f : Nat → Int32} (hh : h r = some (a, .inl (0, N, .inl f))) (hi : i = nI j) (hj : j < N) (hN : N < 2 ^ 31) (g : z_J Z mX1_begin R k n Q 18 ls st (z_u h r (a, .inl (0, N, .inl (upd f j x))))) : z_J Z mX1_begin R k n Q 17 ls (.int x :: .int i :: .ref a :: st) h := z_iast dX1_begin_17 rfl hh hi hj hN g
def bX1_begin_18 : zB := [(18, .aload_n 0, 19, nI 0)]
theorem bX1_begin_18_ok : z_ok cX1_begin 18 bX1_begin_18 19 = true := by decide +kernel
theorem iX1_begin_18 (hr : z_run 3 bX1_begin_18 ls st = some (ls', st')) (g : z_J Z mX1_begin R k n Q 19 ls' st' h) : z_J Z mX1_begin R k n Q 18 ls st h := z_jr bX1_begin_18 bX1_begin_18_ok hr g
theorem dX1_begin_19 : decode cX1_begin 19 = .ok (.getfield 15, 3) := by decide +kernel
theorem iX1_begin_19 (hh : h r = some (a, .inr (2, fs))) (hv : fs[1]? = some v) (g : z_J Z mX1_begin R k n Q 22 ls (v :: st) h) : z_J Z mX1_begin R k n Q 19 ls (.ref a :: st) h := z_get dX1_begin_19 rfl fl_X1_15 hh hv g
def bX1_begin_22 : zB := [(22, .aload_n 0, 23, nI 0)]
theorem bX1_begin_22_ok : z_ok cX1_begin 22 bX1_begin_22 23 = true := by decide +kernel
theorem iX1_begin_22 (hr : z_run 3 bX1_begin_22 ls st = some (ls', st')) (g : z_J Z mX1_begin R k n Q 23 ls' st' h) : z_J Z mX1_begin R k n Q 22 ls st h := z_jr bX1_begin_22 bX1_begin_22_ok hr g
theorem dX1_begin_23 : decode cX1_begin 23 = .ok (.getfield 21, 3) := by decide +kernel
theorem iX1_begin_23 (hh : h r = some (a, .inr (2, fs))) (hv : fs[3]? = some v) (g : z_J Z mX1_begin R k n Q 26 ls (v :: st) h) : z_J Z mX1_begin R k n Q 23 ls (.ref a :: st) h := z_get dX1_begin_23 rfl fl_X1_21 hh hv g
def bX1_begin_26 : zB := [(26, .iload_n 2, 27, nI 0)]
theorem bX1_begin_26_ok : z_ok cX1_begin 26 bX1_begin_26 27 = true := by decide +kernel
theorem iX1_begin_26 (hr : z_run 3 bX1_begin_26 ls st = some (ls', st')) (g : z_J Z mX1_begin R k n Q 27 ls' st' h) : z_J Z mX1_begin R k n Q 26 ls st h := z_jr bX1_begin_26 bX1_begin_26_ok hr g
theorem dX1_begin_27 : decode cX1_begin 27 = .ok (.iastore, 1) := by decide +kernel
theorem iX1_begin_27 {f : Nat → Int32} (hh : h r = some (a, .inl (0, N, .inl f))) (hi : i = nI j) (hj : j < N) (hN : N < 2 ^ 31) (g : z_J Z mX1_begin R k n Q 28 ls st (z_u h r (a, .inl (0, N, .inl (upd f j x))))) : z_J Z mX1_begin R k n Q 27 ls (.int x :: .int i :: .ref a :: st) h := z_iast dX1_begin_27 rfl hh hi hj hN g
def bX1_begin_28 : zB := [(28, .aload_n 0, 29, nI 0)]
theorem bX1_begin_28_ok : z_ok cX1_begin 28 bX1_begin_28 29 = true := by decide +kernel
theorem iX1_begin_28 (hr : z_run 3 bX1_begin_28 ls st = some (ls', st')) (g : z_J Z mX1_begin R k n Q 29 ls' st' h) : z_J Z mX1_begin R k n Q 28 ls st h := z_jr bX1_begin_28 bX1_begin_28_ok hr g
theorem dX1_begin_29 : decode cX1_begin 29 = .ok (.getfield 18, 3) := by decide +kernel
theorem iX1_begin_29 (hh : h r = some (a, .inr (2, fs))) (hv : fs[2]? = some v) (g : z_J Z mX1_begin R k n Q 32 ls (v :: st) h) : z_J Z mX1_begin R k n Q 29 ls (.ref a :: st) h := z_get dX1_begin_29 rfl fl_X1_18 hh hv g
def bX1_begin_32 : zB := [(32, .aload_n 0, 33, nI 0)]
theorem bX1_begin_32_ok : z_ok cX1_begin 32 bX1_begin_32 33 = true := by decide +kernel
theorem iX1_begin_32 (hr : z_run 3 bX1_begin_32 ls st = some (ls', st')) (g : z_J Z mX1_begin R k n Q 33 ls' st' h) : z_J Z mX1_begin R k n Q 32 ls st h := z_jr bX1_begin_32 bX1_begin_32_ok hr g
theorem dX1_begin_33 : decode cX1_begin 33 = .ok (.getfield 21, 3) := by decide +kernel
theorem iX1_begin_33 (hh : h r = some (a, .inr (2, fs))) (hv : fs[3]? = some v) (g : z_J Z mX1_begin R k n Q 36 ls (v :: st) h) : z_J Z mX1_begin R k n Q 33 ls (.ref a :: st) h := z_get dX1_begin_33 rfl fl_X1_21 hh hv g
def bX1_begin_36 : zB := [(36, .sipush 721, 39, nI 721)]
theorem bX1_begin_36_ok : z_ok cX1_begin 36 bX1_begin_36 39 = true := by decide +kernel
theorem iX1_begin_36 (hr : z_run 3 bX1_begin_36 ls st = some (ls', st')) (g : z_J Z mX1_begin R k n Q 39 ls' st' h) : z_J Z mX1_begin R k n Q 36 ls st h := z_jr bX1_begin_36 bX1_begin_36_ok hr g
theorem dX1_begin_39 : decode cX1_begin 39 = .ok (.iastore, 1) := by decide +kernel
theorem iX1_begin_39 {f : Nat → Int32} (hh : h r = some (a, .inl (0, N, .inl f))) (hi : i = nI j) (hj : j < N) (hN : N < 2 ^ 31) (g : z_J Z mX1_begin R k n Q 40 ls st (z_u h r (a, .inl (0, N, .inl (upd f j x))))) : z_J Z mX1_begin R k n Q 39 ls (.int x :: .int i :: .ref a :: st) h := z_iast dX1_begin_39 rfl hh hi hj hN g
def bX1_begin_40 : zB := [(40, .aload_n 0, 41, nI 0), (41, .dup, 42, nI 0)]
theorem bX1_begin_40_ok : z_ok cX1_begin 40 bX1_begin_40 42 = true := by decide +kernel
theorem iX1_begin_40 (hr : z_run 3 bX1_begin_40 ls st = some (ls', st')) (g : z_J Z mX1_begin R k n Q 42 ls' st' h) : z_J Z mX1_begin R k n Q 40 ls st h := z_jr bX1_begin_40 bX1_begin_40_ok hr g
theorem dX1_begin_42 : decode cX1_begin 42 = .ok (.getfield 21, 3) := by decide +kernel
theorem iX1_begin_42 (hh : h r = some (a, .inr (2, fs))) (hv : fs[3]? = some v) (g : z_J Z mX1_begin R k n Q 45 ls (v :: st) h) : z_J Z mX1_begin R k n Q 42 ls (.ref a :: st) h := z_get dX1_begin_42 rfl fl_X1_21 hh hv g
def bX1_begin_45 : zB := [(45, .iconst 1, 46, nI 1), (46, .iadd, 47, nI 0)]
theorem bX1_begin_45_ok : z_ok cX1_begin 45 bX1_begin_45 47 = true := by decide +kernel
theorem iX1_begin_45 (hr : z_run 3 bX1_begin_45 ls st = some (ls', st')) (g : z_J Z mX1_begin R k n Q 47 ls' st' h) : z_J Z mX1_begin R k n Q 45 ls st h := z_jr bX1_begin_45 bX1_begin_45_ok hr g
theorem dX1_begin_47 : decode cX1_begin 47 = .ok (.putfield 21, 3) := by decide +kernel
theorem iX1_begin_47 (hh : h r = some (a, .inr (2, fs))) (hl : Nat.blt 3 fs.length = true) (g : z_J Z mX1_begin R k n Q 50 ls st (z_u h r (a, .inr (2, fs.set 3 (.int x))))) : z_J Z mX1_begin R k n Q 47 ls ((.int x) :: .ref a :: st) h := z_put dX1_begin_47 rfl fl_X1_21 fw_X1_3 rfl hh rfl rfl (by simpa [Nat.blt_eq] using hl) g
theorem dX1_begin_50 : decode cX1_begin 50 = .ok (.return_, 1) := by decide +kernel
theorem iX1_begin_50 (hk : k ≤ R.cells) (hs : n ≤ R.slots) (hq : Q (.inl none) h) : z_J Z mX1_begin R k n Q 50 ls [] h := z_vret dX1_begin_50 rfl hk hs hq
/-! X1_end -/
def bX1_end_0 : zB := [(0, .aload_n 0, 1, nI 0)]
theorem bX1_end_0_ok : z_ok cX1_end 0 bX1_end_0 1 = true := by decide +kernel
theorem iX1_end_0 (hr : z_run 2 bX1_end_0 ls st = some (ls', st')) (g : z_J Z mX1_end R k n Q 1 ls' st' h) : z_J Z mX1_end R k n Q 0 ls st h := z_jr bX1_end_0 bX1_end_0_ok hr g
theorem dX1_end_1 : decode cX1_end 1 = .ok (.invokevirtual 25, 3) := by decide +kernel
theorem iX1_end_1 (ha : z_args 0 st [] = some (As, .ref b :: rest)) (hc : z_chk rest (.ref b :: As) 1 = true) (hh : h r = some (b, .inr (2, fs))) (hR : z_rm R R' 1 k n) (gc : z_J Z mX1_isOpen R' 0 0 Q' 0 (.ref b :: As) [] h) (kr : ∀ (v : Option Value) (h' : zH), Q' (.inl v) h' → z_J Z mX1_end R (k + R'.cells) (n + R'.slots) Q 4 ls (v.toList ++ rest) h') (kx : ∀ (E : String) (h' : zH), Q' (.inr E) h' → z_JX Z mX1_end R (k + R'.cells) (n + R'.slots) Q 1 ls E h') : z_J Z mX1_end R k n Q 1 ls st h := z_callV (M' := mX1_isOpen) dX1_end_1 rfl cs_X1_25 rfl gw529 gw530 ha hh (ci := 2) rfl hR (z_chk1 hc) (z_chk2 hc) (z_chk3 hc) gc kr kx
theorem dX1_end_4 : decode cX1_end 4 = .ok (.ifCond .ne 5, 3) := by decide +kernel
theorem iX1_end_4 (kt : ¬ x = 0 → z_J Z mX1_end R k n Q 9 ls st h) (kf : x = 0 → z_J Z mX1_end R k n Q 7 ls st h) : z_J Z mX1_end R k n Q 4 ls (.int x :: st) h := z_if_ne dX1_end_4 (tgt := 9) (by decide) rfl kt kf
def bX1_end_7 : zB := [(7, .iconst 0, 8, nI 0)]
theorem bX1_end_7_ok : z_ok cX1_end 7 bX1_end_7 8 = true := by decide +kernel
theorem iX1_end_7 (hr : z_run 2 bX1_end_7 ls st = some (ls', st')) (g : z_J Z mX1_end R k n Q 8 ls' st' h) : z_J Z mX1_end R k n Q 7 ls st h := z_jr bX1_end_7 bX1_end_7_ok hr g
theorem dX1_end_8 : decode cX1_end 8 = .ok (.ireturn, 1) := by decide +kernel
theorem iX1_end_8 (hk : k ≤ R.cells) (hs : n ≤ R.slots) (hq : Q (.inl (some (.int x))) h) : z_J Z mX1_end R k n Q 8 ls [.int x] h := z_iret (ty := .int) dX1_end_8 rfl rfl hk hs hq
def bX1_end_9 : zB := [(9, .aload_n 0, 10, nI 0)]
theorem bX1_end_9_ok : z_ok cX1_end 9 bX1_end_9 10 = true := by decide +kernel
theorem iX1_end_9 (hr : z_run 2 bX1_end_9 ls st = some (ls', st')) (g : z_J Z mX1_end R k n Q 10 ls' st' h) : z_J Z mX1_end R k n Q 9 ls st h := z_jr bX1_end_9 bX1_end_9_ok hr g
theorem dX1_end_10 : decode cX1_end 10 = .ok (.getfield 18, 3) := by decide +kernel
theorem iX1_end_10 (hh : h r = some (a, .inr (2, fs))) (hv : fs[2]? = some v) (g : z_J Z mX1_end R k n Q 13 ls (v :: st) h) : z_J Z mX1_end R k n Q 10 ls (.ref a :: st) h := z_get dX1_end_10 rfl fl_X1_18 hh hv g
def bX1_end_13 : zB := [(13, .aload_n 0, 14, nI 0)]
theorem bX1_end_13_ok : z_ok cX1_end 13 bX1_end_13 14 = true := by decide +kernel
theorem iX1_end_13 (hr : z_run 2 bX1_end_13 ls st = some (ls', st')) (g : z_J Z mX1_end R k n Q 14 ls' st' h) : z_J Z mX1_end R k n Q 13 ls st h := z_jr bX1_end_13 bX1_end_13_ok hr g
theorem dX1_end_14 : decode cX1_end 14 = .ok (.getfield 21, 3) := by decide +kernel
theorem iX1_end_14 (hh : h r = some (a, .inr (2, fs))) (hv : fs[3]? = some v) (g : z_J Z mX1_end R k n Q 17 ls (v :: st) h) : z_J Z mX1_end R k n Q 14 ls (.ref a :: st) h := z_get dX1_end_14 rfl fl_X1_21 hh hv g
def bX1_end_17 : zB := [(17, .iconst 1, 18, nI 1), (18, .isub, 19, nI 0), (19, .iload_n 1, 20, nI 0)]
theorem bX1_end_17_ok : z_ok cX1_end 17 bX1_end_17 20 = true := by decide +kernel
theorem iX1_end_17 (hr : z_run 2 bX1_end_17 ls st = some (ls', st')) (g : z_J Z mX1_end R k n Q 20 ls' st' h) : z_J Z mX1_end R k n Q 17 ls st h := z_jr bX1_end_17 bX1_end_17_ok hr g
theorem dX1_end_20 : decode cX1_end 20 = .ok (.iastore, 1) := by decide +kernel
theorem iX1_end_20 {f : Nat → Int32} (hh : h r = some (a, .inl (0, N, .inl f))) (hi : i = nI j) (hj : j < N) (hN : N < 2 ^ 31) (g : z_J Z mX1_end R k n Q 21 ls st (z_u h r (a, .inl (0, N, .inl (upd f j x))))) : z_J Z mX1_end R k n Q 20 ls (.int x :: .int i :: .ref a :: st) h := z_iast dX1_end_20 rfl hh hi hj hN g
def bX1_end_21 : zB := [(21, .aload_n 0, 22, nI 0)]
theorem bX1_end_21_ok : z_ok cX1_end 21 bX1_end_21 22 = true := by decide +kernel
theorem iX1_end_21 (hr : z_run 2 bX1_end_21 ls st = some (ls', st')) (g : z_J Z mX1_end R k n Q 22 ls' st' h) : z_J Z mX1_end R k n Q 21 ls st h := z_jr bX1_end_21 bX1_end_21_ok hr g
theorem dX1_end_22 : decode cX1_end 22 = .ok (.getfield 9, 3) := by decide +kernel
theorem iX1_end_22 (hh : h r = some (a, .inr (2, fs))) (hv : fs[0]? = some v) (g : z_J Z mX1_end R k n Q 25 ls (v :: st) h) : z_J Z mX1_end R k n Q 22 ls (.ref a :: st) h := z_get dX1_end_22 rfl fl_X1_9 hh hv g
def bX1_end_25 : zB := [(25, .aload_n 0, 26, nI 0)]
theorem bX1_end_25_ok : z_ok cX1_end 25 bX1_end_25 26 = true := by decide +kernel
theorem iX1_end_25 (hr : z_run 2 bX1_end_25 ls st = some (ls', st')) (g : z_J Z mX1_end R k n Q 26 ls' st' h) : z_J Z mX1_end R k n Q 25 ls st h := z_jr bX1_end_25 bX1_end_25_ok hr g
theorem dX1_end_26 : decode cX1_end 26 = .ok (.getfield 21, 3) := by decide +kernel
theorem iX1_end_26 (hh : h r = some (a, .inr (2, fs))) (hv : fs[3]? = some v) (g : z_J Z mX1_end R k n Q 29 ls (v :: st) h) : z_J Z mX1_end R k n Q 26 ls (.ref a :: st) h := z_get dX1_end_26 rfl fl_X1_21 hh hv g
def bX1_end_29 : zB := [(29, .iconst 1, 30, nI 1), (30, .isub, 31, nI 0)]
theorem bX1_end_29_ok : z_ok cX1_end 29 bX1_end_29 31 = true := by decide +kernel
theorem iX1_end_29 (hr : z_run 2 bX1_end_29 ls st = some (ls', st')) (g : z_J Z mX1_end R k n Q 31 ls' st' h) : z_J Z mX1_end R k n Q 29 ls st h := z_jr bX1_end_29 bX1_end_29_ok hr g
theorem dX1_end_31 : decode cX1_end 31 = .ok (.iaload, 1) := by decide +kernel
theorem iX1_end_31 {f : Nat → Int32} (hh : h r = some (a, .inl (0, N, .inl f))) (hi : i = nI j) (hj : j < N) (hN : N < 2 ^ 31) (g : z_J Z mX1_end R k n Q 32 ls (.int (f j) :: st) h) : z_J Z mX1_end R k n Q 31 ls (.int i :: .ref a :: st) h := z_iald dX1_end_31 rfl hh hi hj hN g
theorem dX1_end_32 : decode cX1_end 32 = .ok (.ireturn, 1) := by decide +kernel
theorem iX1_end_32 (hk : k ≤ R.cells) (hs : n ≤ R.slots) (hq : Q (.inl (some (.int x))) h) : z_J Z mX1_end R k n Q 32 ls [.int x] h := z_iret (ty := .int) dX1_end_32 rfl rfl hk hs hq
/-! X1_versionOn -/
def bX1_versionOn_0 : zB := [(0, .aload_n 0, 1, nI 0)]
theorem bX1_versionOn_0_ok : z_ok cX1_versionOn 0 bX1_versionOn_0 1 = true := by decide +kernel
theorem iX1_versionOn_0 (hr : z_run 3 bX1_versionOn_0 ls st = some (ls', st')) (g : z_J Z mX1_versionOn R k n Q 1 ls' st' h) : z_J Z mX1_versionOn R k n Q 0 ls st h := z_jr bX1_versionOn_0 bX1_versionOn_0_ok hr g
theorem dX1_versionOn_1 : decode cX1_versionOn 1 = .ok (.getfield 21, 3) := by decide +kernel
theorem iX1_versionOn_1 (hh : h r = some (a, .inr (2, fs))) (hv : fs[3]? = some v) (g : z_J Z mX1_versionOn R k n Q 4 ls (v :: st) h) : z_J Z mX1_versionOn R k n Q 1 ls (.ref a :: st) h := z_get dX1_versionOn_1 rfl fl_X1_21 hh hv g
def bX1_versionOn_4 : zB := [(4, .iconst 1, 5, nI 1), (5, .isub, 6, nI 0), (6, .istore_n 2, 7, nI 0)]
theorem bX1_versionOn_4_ok : z_ok cX1_versionOn 4 bX1_versionOn_4 7 = true := by decide +kernel
theorem iX1_versionOn_4 (hr : z_run 3 bX1_versionOn_4 ls st = some (ls', st')) (g : z_J Z mX1_versionOn R k n Q 7 ls' st' h) : z_J Z mX1_versionOn R k n Q 4 ls st h := z_jr bX1_versionOn_4 bX1_versionOn_4_ok hr g
def bX1_versionOn_7 : zB := [(7, .iload_n 2, 8, nI 0)]
theorem bX1_versionOn_7_ok : z_ok cX1_versionOn 7 bX1_versionOn_7 8 = true := by decide +kernel
theorem iX1_versionOn_7 (hr : z_run 3 bX1_versionOn_7 ls st = some (ls', st')) (g : z_J Z mX1_versionOn R k n Q 8 ls' st' h) : z_J Z mX1_versionOn R k n Q 7 ls st h := z_jr bX1_versionOn_7 bX1_versionOn_7_ok hr g
theorem dX1_versionOn_8 : decode cX1_versionOn 8 = .ok (.ifCond .lt 40, 3) := by decide +kernel
theorem iX1_versionOn_8 (kt : x < 0 → z_J Z mX1_versionOn R k n Q 48 ls st h) (kf : ¬ x < 0 → z_J Z mX1_versionOn R k n Q 11 ls st h) : z_J Z mX1_versionOn R k n Q 8 ls (.int x :: st) h := z_if_lt dX1_versionOn_8 (tgt := 48) (by decide) rfl kt kf
def bX1_versionOn_11 : zB := [(11, .aload_n 0, 12, nI 0)]
theorem bX1_versionOn_11_ok : z_ok cX1_versionOn 11 bX1_versionOn_11 12 = true := by decide +kernel
theorem iX1_versionOn_11 (hr : z_run 3 bX1_versionOn_11 ls st = some (ls', st')) (g : z_J Z mX1_versionOn R k n Q 12 ls' st' h) : z_J Z mX1_versionOn R k n Q 11 ls st h := z_jr bX1_versionOn_11 bX1_versionOn_11_ok hr g
theorem dX1_versionOn_12 : decode cX1_versionOn 12 = .ok (.getfield 15, 3) := by decide +kernel
theorem iX1_versionOn_12 (hh : h r = some (a, .inr (2, fs))) (hv : fs[1]? = some v) (g : z_J Z mX1_versionOn R k n Q 15 ls (v :: st) h) : z_J Z mX1_versionOn R k n Q 12 ls (.ref a :: st) h := z_get dX1_versionOn_12 rfl fl_X1_15 hh hv g
def bX1_versionOn_15 : zB := [(15, .iload_n 2, 16, nI 0)]
theorem bX1_versionOn_15_ok : z_ok cX1_versionOn 15 bX1_versionOn_15 16 = true := by decide +kernel
theorem iX1_versionOn_15 (hr : z_run 3 bX1_versionOn_15 ls st = some (ls', st')) (g : z_J Z mX1_versionOn R k n Q 16 ls' st' h) : z_J Z mX1_versionOn R k n Q 15 ls st h := z_jr bX1_versionOn_15 bX1_versionOn_15_ok hr g
theorem dX1_versionOn_16 : decode cX1_versionOn 16 = .ok (.iaload, 1) := by decide +kernel
theorem iX1_versionOn_16 {f : Nat → Int32} (hh : h r = some (a, .inl (0, N, .inl f))) (hi : i = nI j) (hj : j < N) (hN : N < 2 ^ 31) (g : z_J Z mX1_versionOn R k n Q 17 ls (.int (f j) :: st) h) : z_J Z mX1_versionOn R k n Q 16 ls (.int i :: .ref a :: st) h := z_iald dX1_versionOn_16 rfl hh hi hj hN g
def bX1_versionOn_17 : zB := [(17, .iload_n 1, 18, nI 0)]
theorem bX1_versionOn_17_ok : z_ok cX1_versionOn 17 bX1_versionOn_17 18 = true := by decide +kernel
theorem iX1_versionOn_17 (hr : z_run 3 bX1_versionOn_17 ls st = some (ls', st')) (g : z_J Z mX1_versionOn R k n Q 18 ls' st' h) : z_J Z mX1_versionOn R k n Q 17 ls st h := z_jr bX1_versionOn_17 bX1_versionOn_17_ok hr g
theorem dX1_versionOn_18 : decode cX1_versionOn 18 = .ok (.if_icmp .gt 24, 3) := by decide +kernel
theorem iX1_versionOn_18 (kt : y < x → z_J Z mX1_versionOn R k n Q 42 ls st h) (kf : ¬ y < x → z_J Z mX1_versionOn R k n Q 21 ls st h) : z_J Z mX1_versionOn R k n Q 18 ls (.int y :: .int x :: st) h := z_ic_gt dX1_versionOn_18 (tgt := 42) (by decide) rfl kt kf
def bX1_versionOn_21 : zB := [(21, .iload_n 1, 22, nI 0), (22, .aload_n 0, 23, nI 0)]
theorem bX1_versionOn_21_ok : z_ok cX1_versionOn 21 bX1_versionOn_21 23 = true := by decide +kernel
theorem iX1_versionOn_21 (hr : z_run 3 bX1_versionOn_21 ls st = some (ls', st')) (g : z_J Z mX1_versionOn R k n Q 23 ls' st' h) : z_J Z mX1_versionOn R k n Q 21 ls st h := z_jr bX1_versionOn_21 bX1_versionOn_21_ok hr g
theorem dX1_versionOn_23 : decode cX1_versionOn 23 = .ok (.getfield 18, 3) := by decide +kernel
theorem iX1_versionOn_23 (hh : h r = some (a, .inr (2, fs))) (hv : fs[2]? = some v) (g : z_J Z mX1_versionOn R k n Q 26 ls (v :: st) h) : z_J Z mX1_versionOn R k n Q 23 ls (.ref a :: st) h := z_get dX1_versionOn_23 rfl fl_X1_18 hh hv g
def bX1_versionOn_26 : zB := [(26, .iload_n 2, 27, nI 0)]
theorem bX1_versionOn_26_ok : z_ok cX1_versionOn 26 bX1_versionOn_26 27 = true := by decide +kernel
theorem iX1_versionOn_26 (hr : z_run 3 bX1_versionOn_26 ls st = some (ls', st')) (g : z_J Z mX1_versionOn R k n Q 27 ls' st' h) : z_J Z mX1_versionOn R k n Q 26 ls st h := z_jr bX1_versionOn_26 bX1_versionOn_26_ok hr g
theorem dX1_versionOn_27 : decode cX1_versionOn 27 = .ok (.iaload, 1) := by decide +kernel
theorem iX1_versionOn_27 {f : Nat → Int32} (hh : h r = some (a, .inl (0, N, .inl f))) (hi : i = nI j) (hj : j < N) (hN : N < 2 ^ 31) (g : z_J Z mX1_versionOn R k n Q 28 ls (.int (f j) :: st) h) : z_J Z mX1_versionOn R k n Q 27 ls (.int i :: .ref a :: st) h := z_iald dX1_versionOn_27 rfl hh hi hj hN g
theorem dX1_versionOn_28 : decode cX1_versionOn 28 = .ok (.if_icmp .ge 12, 3) := by decide +kernel
theorem iX1_versionOn_28 (kt : y ≤ x → z_J Z mX1_versionOn R k n Q 40 ls st h) (kf : ¬ y ≤ x → z_J Z mX1_versionOn R k n Q 31 ls st h) : z_J Z mX1_versionOn R k n Q 28 ls (.int y :: .int x :: st) h := z_ic_ge dX1_versionOn_28 (tgt := 40) (by decide) rfl kt kf
def bX1_versionOn_31 : zB := [(31, .aload_n 0, 32, nI 0)]
theorem bX1_versionOn_31_ok : z_ok cX1_versionOn 31 bX1_versionOn_31 32 = true := by decide +kernel
theorem iX1_versionOn_31 (hr : z_run 3 bX1_versionOn_31 ls st = some (ls', st')) (g : z_J Z mX1_versionOn R k n Q 32 ls' st' h) : z_J Z mX1_versionOn R k n Q 31 ls st h := z_jr bX1_versionOn_31 bX1_versionOn_31_ok hr g
theorem dX1_versionOn_32 : decode cX1_versionOn 32 = .ok (.getfield 9, 3) := by decide +kernel
theorem iX1_versionOn_32 (hh : h r = some (a, .inr (2, fs))) (hv : fs[0]? = some v) (g : z_J Z mX1_versionOn R k n Q 35 ls (v :: st) h) : z_J Z mX1_versionOn R k n Q 32 ls (.ref a :: st) h := z_get dX1_versionOn_32 rfl fl_X1_9 hh hv g
def bX1_versionOn_35 : zB := [(35, .iload_n 2, 36, nI 0)]
theorem bX1_versionOn_35_ok : z_ok cX1_versionOn 35 bX1_versionOn_35 36 = true := by decide +kernel
theorem iX1_versionOn_35 (hr : z_run 3 bX1_versionOn_35 ls st = some (ls', st')) (g : z_J Z mX1_versionOn R k n Q 36 ls' st' h) : z_J Z mX1_versionOn R k n Q 35 ls st h := z_jr bX1_versionOn_35 bX1_versionOn_35_ok hr g
theorem dX1_versionOn_36 : decode cX1_versionOn 36 = .ok (.iaload, 1) := by decide +kernel
theorem iX1_versionOn_36 {f : Nat → Int32} (hh : h r = some (a, .inl (0, N, .inl f))) (hi : i = nI j) (hj : j < N) (hN : N < 2 ^ 31) (g : z_J Z mX1_versionOn R k n Q 37 ls (.int (f j) :: st) h) : z_J Z mX1_versionOn R k n Q 36 ls (.int i :: .ref a :: st) h := z_iald dX1_versionOn_36 rfl hh hi hj hN g
def bX1_versionOn_37 : zB := [(37, .goto 4, 41, nI 0)]
theorem bX1_versionOn_37_ok : z_ok cX1_versionOn 37 bX1_versionOn_37 41 = true := by decide +kernel
theorem iX1_versionOn_37 (hr : z_run 3 bX1_versionOn_37 ls st = some (ls', st')) (g : z_J Z mX1_versionOn R k n Q 41 ls' st' h) : z_J Z mX1_versionOn R k n Q 37 ls st h := z_jr bX1_versionOn_37 bX1_versionOn_37_ok hr g
def bX1_versionOn_40 : zB := [(40, .iconst 0, 41, nI 0)]
theorem bX1_versionOn_40_ok : z_ok cX1_versionOn 40 bX1_versionOn_40 41 = true := by decide +kernel
theorem iX1_versionOn_40 (hr : z_run 3 bX1_versionOn_40 ls st = some (ls', st')) (g : z_J Z mX1_versionOn R k n Q 41 ls' st' h) : z_J Z mX1_versionOn R k n Q 40 ls st h := z_jr bX1_versionOn_40 bX1_versionOn_40_ok hr g
theorem dX1_versionOn_41 : decode cX1_versionOn 41 = .ok (.ireturn, 1) := by decide +kernel
theorem iX1_versionOn_41 (hk : k ≤ R.cells) (hs : n ≤ R.slots) (hq : Q (.inl (some (.int x))) h) : z_J Z mX1_versionOn R k n Q 41 ls [.int x] h := z_iret (ty := .int) dX1_versionOn_41 rfl rfl hk hs hq
def bX1_versionOn_42 : zB := [(42, .iinc 2 (-1), 45, -1), (45, .goto (-38), 7, nI 0)]
theorem bX1_versionOn_42_ok : z_ok cX1_versionOn 42 bX1_versionOn_42 7 = true := by decide +kernel
theorem iX1_versionOn_42 (hr : z_run 3 bX1_versionOn_42 ls st = some (ls', st')) (g : z_J Z mX1_versionOn R k n Q 7 ls' st' h) : z_J Z mX1_versionOn R k n Q 42 ls st h := z_jr bX1_versionOn_42 bX1_versionOn_42_ok hr g
def bX1_versionOn_48 : zB := [(48, .iconst 0, 49, nI 0)]
theorem bX1_versionOn_48_ok : z_ok cX1_versionOn 48 bX1_versionOn_48 49 = true := by decide +kernel
theorem iX1_versionOn_48 (hr : z_run 3 bX1_versionOn_48 ls st = some (ls', st')) (g : z_J Z mX1_versionOn R k n Q 49 ls' st' h) : z_J Z mX1_versionOn R k n Q 48 ls st h := z_jr bX1_versionOn_48 bX1_versionOn_48_ok hr g
theorem dX1_versionOn_49 : decode cX1_versionOn 49 = .ok (.ireturn, 1) := by decide +kernel
theorem iX1_versionOn_49 (hk : k ≤ R.cells) (hs : n ≤ R.slots) (hq : Q (.inl (some (.int x))) h) : z_J Z mX1_versionOn R k n Q 49 ls [.int x] h := z_iret (ty := .int) dX1_versionOn_49 rfl rfl hk hs hq
/-! X2_init -/
def bX2_init_0 : zB := [(0, .aload_n 0, 1, nI 0)]
theorem bX2_init_0_ok : z_ok cX2_init 0 bX2_init_0 1 = true := by decide +kernel
theorem iX2_init_0 (hr : z_run 5 bX2_init_0 ls st = some (ls', st')) (g : z_J Z mX2_init R k n Q 1 ls' st' h) : z_J Z mX2_init R k n Q 0 ls st h := z_jr bX2_init_0 bX2_init_0_ok hr g
theorem dX2_init_1 : decode cX2_init 1 = .ok (.invokespecial 3, 3) := by decide +kernel
theorem iX2_init_1 (hst : (st.map fun v => v.category).sum + 12 ≤ R.locals) (hf : 1 ≤ R.frames) (g : z_J Z mX2_init R k n Q 4 ls st h) : z_J Z mX2_init R k n Q 1 ls (.ref a :: st) h := z_objI dX2_init_1 rfl gw436 gw60 gw_objInit hst hf g
def bX2_init_4 : zB := [(4, .aload_n 0, 5, nI 0), (5, .iconst 5, 6, nI 5)]
theorem bX2_init_4_ok : z_ok cX2_init 4 bX2_init_4 6 = true := by decide +kernel
theorem iX2_init_4 (hr : z_run 5 bX2_init_4 ls st = some (ls', st')) (g : z_J Z mX2_init R k n Q 6 ls' st' h) : z_J Z mX2_init R k n Q 4 ls st h := z_jr bX2_init_4 bX2_init_4_ok hr g
theorem dX2_init_6 : decode cX2_init 6 = .ok (.anewarray 9, 3) := by decide +kernel
theorem iX2_init_6 (r : Nat) (hi : i = nI N) (hN : N < 1000) (hR : k + 1 ≤ R.cells ∧ n + N ≤ R.slots) (g : ∀ q, z_J Z mX2_init R (k + 1) (n + N) Q 9 ls (.ref q :: st) (z_u h r (q, .inl (4, N, .inr (.inr (.inr (.inr (fun _ => none)))))))) : z_J Z mX2_init R k n Q 6 ls (.int i :: st) h := z_newq r (t := 4) dX2_init_6 rfl (fun _ => rfl) (by right; rfl) gw437 hi hN hR g
theorem dX2_init_9 : decode cX2_init 9 = .ok (.putfield 11, 3) := by decide +kernel
theorem iX2_init_9 (hh : h r = some (a, .inr (3, fs))) (hl : Nat.blt 2 fs.length = true) (g : z_J Z mX2_init R k n Q 12 ls st (z_u h r (a, .inr (3, fs.set 2 (.ref b))))) : z_J Z mX2_init R k n Q 9 ls ((.ref b) :: .ref a :: st) h := z_putF dX2_init_9 rfl fl_X2_11 fw_X2_2 rfl rfl rfl hh rfl rfl (by simpa [Nat.blt_eq] using hl) g
theorem iX2_init_9N (hh : h r = some (a, .inr (3, fs))) (hl : Nat.blt 2 fs.length = true) (g : z_J Z mX2_init R k n Q 12 ls st (z_u h r (a, .inr (3, fs.set 2 (.null))))) : z_J Z mX2_init R k n Q 9 ls ((.null) :: .ref a :: st) h := z_putF dX2_init_9 rfl fl_X2_11 fw_X2_2 rfl rfl rfl hh rfl rfl (by simpa [Nat.blt_eq] using hl) g
def bX2_init_12 : zB := [(12, .aload_n 0, 13, nI 0), (13, .iload_n 1, 14, nI 0)]
theorem bX2_init_12_ok : z_ok cX2_init 12 bX2_init_12 14 = true := by decide +kernel
theorem iX2_init_12 (hr : z_run 5 bX2_init_12 ls st = some (ls', st')) (g : z_J Z mX2_init R k n Q 14 ls' st' h) : z_J Z mX2_init R k n Q 12 ls st h := z_jr bX2_init_12 bX2_init_12_ok hr g
theorem dX2_init_14 : decode cX2_init 14 = .ok (.putfield 17, 3) := by decide +kernel
theorem iX2_init_14 (hh : h r = some (a, .inr (3, fs))) (hl : Nat.blt 0 fs.length = true) (g : z_J Z mX2_init R k n Q 17 ls st (z_u h r (a, .inr (3, fs.set 0 (.int x))))) : z_J Z mX2_init R k n Q 14 ls ((.int x) :: .ref a :: st) h := z_putF dX2_init_14 rfl fl_X2_17 fw_X2_0 rfl rfl rfl hh rfl rfl (by simpa [Nat.blt_eq] using hl) g
def bX2_init_17 : zB := [(17, .aload_n 0, 18, nI 0), (18, .iload_n 2, 19, nI 0)]
theorem bX2_init_17_ok : z_ok cX2_init 17 bX2_init_17 19 = true := by decide +kernel
theorem iX2_init_17 (hr : z_run 5 bX2_init_17 ls st = some (ls', st')) (g : z_J Z mX2_init R k n Q 19 ls' st' h) : z_J Z mX2_init R k n Q 17 ls st h := z_jr bX2_init_17 bX2_init_17_ok hr g
theorem dX2_init_19 : decode cX2_init 19 = .ok (.putfield 21, 3) := by decide +kernel
theorem iX2_init_19 (hh : h r = some (a, .inr (3, fs))) (hl : Nat.blt 3 fs.length = true) (g : z_J Z mX2_init R k n Q 22 ls st (z_u h r (a, .inr (3, fs.set 3 (.int x))))) : z_J Z mX2_init R k n Q 19 ls ((.int x) :: .ref a :: st) h := z_put dX2_init_19 rfl fl_X2_21 fw_X2_3 rfl hh rfl rfl (by simpa [Nat.blt_eq] using hl) g
def bX2_init_22 : zB := [(22, .aload_n 0, 23, nI 0), (23, .aload_n 3, 24, nI 0)]
theorem bX2_init_22_ok : z_ok cX2_init 22 bX2_init_22 24 = true := by decide +kernel
theorem iX2_init_22 (hr : z_run 5 bX2_init_22 ls st = some (ls', st')) (g : z_J Z mX2_init R k n Q 24 ls' st' h) : z_J Z mX2_init R k n Q 22 ls st h := z_jr bX2_init_22 bX2_init_22_ok hr g
theorem dX2_init_24 : decode cX2_init 24 = .ok (.putfield 24, 3) := by decide +kernel
theorem iX2_init_24 (hh : h r = some (a, .inr (3, fs))) (hl : Nat.blt 1 fs.length = true) (g : z_J Z mX2_init R k n Q 27 ls st (z_u h r (a, .inr (3, fs.set 1 (.ref b))))) : z_J Z mX2_init R k n Q 24 ls ((.ref b) :: .ref a :: st) h := z_putF dX2_init_24 rfl fl_X2_24 fw_X2_1 rfl rfl rfl hh rfl rfl (by simpa [Nat.blt_eq] using hl) g
theorem iX2_init_24N (hh : h r = some (a, .inr (3, fs))) (hl : Nat.blt 1 fs.length = true) (g : z_J Z mX2_init R k n Q 27 ls st (z_u h r (a, .inr (3, fs.set 1 (.null))))) : z_J Z mX2_init R k n Q 24 ls ((.null) :: .ref a :: st) h := z_putF dX2_init_24 rfl fl_X2_24 fw_X2_1 rfl rfl rfl hh rfl rfl (by simpa [Nat.blt_eq] using hl) g
def bX2_init_27 : zB := [(27, .iconst 0, 28, nI 0), (28, .istore 4, 30, nI 0)]
theorem bX2_init_27_ok : z_ok cX2_init 27 bX2_init_27 30 = true := by decide +kernel
theorem iX2_init_27 (hr : z_run 5 bX2_init_27 ls st = some (ls', st')) (g : z_J Z mX2_init R k n Q 30 ls' st' h) : z_J Z mX2_init R k n Q 27 ls st h := z_jr bX2_init_27 bX2_init_27_ok hr g
def bX2_init_30 : zB := [(30, .iload 4, 32, nI 0), (32, .iconst 5, 33, nI 5)]
theorem bX2_init_30_ok : z_ok cX2_init 30 bX2_init_30 33 = true := by decide +kernel
theorem iX2_init_30 (hr : z_run 5 bX2_init_30 ls st = some (ls', st')) (g : z_J Z mX2_init R k n Q 33 ls' st' h) : z_J Z mX2_init R k n Q 30 ls st h := z_jr bX2_init_30 bX2_init_30_ok hr g
theorem dX2_init_33 : decode cX2_init 33 = .ok (.if_icmp .ge 23, 3) := by decide +kernel
theorem iX2_init_33 (kt : y ≤ x → z_J Z mX2_init R k n Q 56 ls st h) (kf : ¬ y ≤ x → z_J Z mX2_init R k n Q 36 ls st h) : z_J Z mX2_init R k n Q 33 ls (.int y :: .int x :: st) h := z_ic_ge dX2_init_33 (tgt := 56) (by decide) rfl kt kf
def bX2_init_36 : zB := [(36, .aload_n 0, 37, nI 0)]
theorem bX2_init_36_ok : z_ok cX2_init 36 bX2_init_36 37 = true := by decide +kernel
theorem iX2_init_36 (hr : z_run 5 bX2_init_36 ls st = some (ls', st')) (g : z_J Z mX2_init R k n Q 37 ls' st' h) : z_J Z mX2_init R k n Q 36 ls st h := z_jr bX2_init_36 bX2_init_36_ok hr g
theorem dX2_init_37 : decode cX2_init 37 = .ok (.getfield 11, 3) := by decide +kernel
theorem iX2_init_37 (hh : h r = some (a, .inr (3, fs))) (hv : fs[2]? = some v) (g : z_J Z mX2_init R k n Q 40 ls (v :: st) h) : z_J Z mX2_init R k n Q 37 ls (.ref a :: st) h := z_get dX2_init_37 rfl fl_X2_11 hh hv g
def bX2_init_40 : zB := [(40, .iload 4, 42, nI 0)]
theorem bX2_init_40_ok : z_ok cX2_init 40 bX2_init_40 42 = true := by decide +kernel
theorem iX2_init_40 (hr : z_run 5 bX2_init_40 ls st = some (ls', st')) (g : z_J Z mX2_init R k n Q 42 ls' st' h) : z_J Z mX2_init R k n Q 40 ls st h := z_jr bX2_init_40 bX2_init_40_ok hr g
theorem dX2_init_42 : decode cX2_init 42 = .ok (.new 9, 3) := by decide +kernel
theorem iX2_init_42 (r : Nat) (hR : k + 1 ≤ R.cells ∧ n + 4 ≤ R.slots) (g : ∀ q, z_J Z mX2_init R (k + 1) (n + 4) Q 45 ls (.ref q :: st) (z_u h r (q, .inr (2, [.null, .null, .null, .int 0])))) : z_J Z mX2_init R k n Q 42 ls st h := z_new r (ty := tyX1) dX2_init_42 rfl (ci := 2) rfl inG_X1 tyX1_ok gw437 gw439 gw53 (by decide +kernel) hR g
def bX2_init_45 : zB := [(45, .dup, 46, nI 0)]
theorem bX2_init_45_ok : z_ok cX2_init 45 bX2_init_45 46 = true := by decide +kernel
theorem iX2_init_45 (hr : z_run 5 bX2_init_45 ls st = some (ls', st')) (g : z_J Z mX2_init R k n Q 46 ls' st' h) : z_J Z mX2_init R k n Q 45 ls st h := z_jr bX2_init_45 bX2_init_45_ok hr g
theorem dX2_init_46 : decode cX2_init 46 = .ok (.invokespecial 28, 3) := by decide +kernel
theorem iX2_init_46 (ha : z_args 0 st [] = some (As, .ref b :: rest)) (hc : z_chk rest (.ref b :: As) 1 = true) (hR : z_rm R R' 1 k n) (hq : ∀ E h', ¬ Q' (.inr E) h') (gc : z_J Z mX1_init R' 0 0 Q' 0 (.ref b :: As) [] h) (kr : ∀ (v : Option Value) (h' : zH), Q' (.inl v) h' → z_J Z mX2_init R (k + R'.cells) (n + R'.slots) Q 49 ls (v.toList ++ rest) h') : z_J Z mX2_init R k n Q 46 ls st h := z_callIN (M' := mX1_init) (host := "RightsCounter") dX2_init_46 rfl (by decide +kernel) gw53 gw442 (by decide +kernel) (by decide +kernel) rfl rfl gw441 rfl ha hR (z_chk1 hc) (z_chk2 hc) (z_chk3 hc) hq gc kr
theorem dX2_init_49 : decode cX2_init 49 = .ok (.aastore, 1) := by decide +kernel
theorem iX2_init_49 {f : Nat → Option Nat} (hh : h r = some (a, .inl (4, N, .inr (.inr (.inr (.inr f)))))) (hi : i = nI j) (hj : j < N) (hN : N < 2 ^ 31) (hv : h rv = some (b, .inr (2, vs))) (g : z_J Z mX2_init R k n Q 50 ls st (z_u h r (a, .inl (4, N, .inr (.inr (.inr (.inr (va_up f j (some b))))))))) : z_J Z mX2_init R k n Q 49 ls (.ref b :: .int i :: .ref a :: st) h := z_aast4 dX2_init_49 rfl hh hi hj hN hv g
def bX2_init_50 : zB := [(50, .iinc 4 1, 53, nI 1), (53, .goto (-23), 30, nI 0)]
theorem bX2_init_50_ok : z_ok cX2_init 50 bX2_init_50 30 = true := by decide +kernel
theorem iX2_init_50 (hr : z_run 5 bX2_init_50 ls st = some (ls', st')) (g : z_J Z mX2_init R k n Q 30 ls' st' h) : z_J Z mX2_init R k n Q 50 ls st h := z_jr bX2_init_50 bX2_init_50_ok hr g
theorem dX2_init_56 : decode cX2_init 56 = .ok (.return_, 1) := by decide +kernel
theorem iX2_init_56 (hk : k ≤ R.cells) (hs : n ≤ R.slots) (hq : Q (.inl none) h) : z_J Z mX2_init R k n Q 56 ls [] h := z_vret dX2_init_56 rfl hk hs hq
/-! X2_countsBy -/
def bX2_countsBy_0 : zB := [(0, .aload_n 0, 1, nI 0), (1, .astore_n 1, 2, nI 0)]
theorem bX2_countsBy_0_ok : z_ok cX2_countsBy 0 bX2_countsBy_0 2 = true := by decide +kernel
theorem iX2_countsBy_0 (hr : z_run 2 bX2_countsBy_0 ls st = some (ls', st')) (g : z_J Z mX2_countsBy R k n Q 2 ls' st' h) : z_J Z mX2_countsBy R k n Q 0 ls st h := z_jr bX2_countsBy_0 bX2_countsBy_0_ok hr g
def bX2_countsBy_2 : zB := [(2, .aload_n 1, 3, nI 0)]
theorem bX2_countsBy_2_ok : z_ok cX2_countsBy 2 bX2_countsBy_2 3 = true := by decide +kernel
theorem iX2_countsBy_2 (hr : z_run 2 bX2_countsBy_2 ls st = some (ls', st')) (g : z_J Z mX2_countsBy R k n Q 3 ls' st' h) : z_J Z mX2_countsBy R k n Q 2 ls st h := z_jr bX2_countsBy_2 bX2_countsBy_2_ok hr g
theorem dX2_countsBy_3 : decode cX2_countsBy 3 = .ok (.getfield 24, 3) := by decide +kernel
theorem iX2_countsBy_3 (hh : h r = some (a, .inr (3, fs))) (hv : fs[1]? = some v) (g : z_J Z mX2_countsBy R k n Q 6 ls (v :: st) h) : z_J Z mX2_countsBy R k n Q 3 ls (.ref a :: st) h := z_get dX2_countsBy_3 rfl fl_X2_24 hh hv g
theorem dX2_countsBy_6 : decode cX2_countsBy 6 = .ok (.ifnull 18, 3) := by decide +kernel
theorem iX2_countsBy_6 (g : z_J Z mX2_countsBy R k n Q 9 ls st h) : z_J Z mX2_countsBy R k n Q 6 ls (.ref a :: st) h := z_ifnull dX2_countsBy_6 rfl g
theorem iX2_countsBy_6N (g : z_J Z mX2_countsBy R k n Q 24 ls st h) : z_J Z mX2_countsBy R k n Q 6 ls (.null :: st) h := z_ifnullN dX2_countsBy_6 (tgt := 24) (by decide) g
def bX2_countsBy_9 : zB := [(9, .aload_n 1, 10, nI 0)]
theorem bX2_countsBy_9_ok : z_ok cX2_countsBy 9 bX2_countsBy_9 10 = true := by decide +kernel
theorem iX2_countsBy_9 (hr : z_run 2 bX2_countsBy_9 ls st = some (ls', st')) (g : z_J Z mX2_countsBy R k n Q 10 ls' st' h) : z_J Z mX2_countsBy R k n Q 9 ls st h := z_jr bX2_countsBy_9 bX2_countsBy_9_ok hr g
theorem dX2_countsBy_10 : decode cX2_countsBy 10 = .ok (.getfield 29, 3) := by decide +kernel
theorem iX2_countsBy_10 (hh : h r = some (a, .inr (3, fs))) (hv : fs[4]? = some v) (g : z_J Z mX2_countsBy R k n Q 13 ls (v :: st) h) : z_J Z mX2_countsBy R k n Q 10 ls (.ref a :: st) h := z_get dX2_countsBy_10 rfl fl_X2_29 hh hv g
theorem dX2_countsBy_13 : decode cX2_countsBy 13 = .ok (.ifCond .ne 11, 3) := by decide +kernel
theorem iX2_countsBy_13 (kt : ¬ x = 0 → z_J Z mX2_countsBy R k n Q 24 ls st h) (kf : x = 0 → z_J Z mX2_countsBy R k n Q 16 ls st h) : z_J Z mX2_countsBy R k n Q 13 ls (.int x :: st) h := z_if_ne dX2_countsBy_13 (tgt := 24) (by decide) rfl kt kf
def bX2_countsBy_16 : zB := [(16, .aload_n 1, 17, nI 0)]
theorem bX2_countsBy_16_ok : z_ok cX2_countsBy 16 bX2_countsBy_16 17 = true := by decide +kernel
theorem iX2_countsBy_16 (hr : z_run 2 bX2_countsBy_16 ls st = some (ls', st')) (g : z_J Z mX2_countsBy R k n Q 17 ls' st' h) : z_J Z mX2_countsBy R k n Q 16 ls st h := z_jr bX2_countsBy_16 bX2_countsBy_16_ok hr g
theorem dX2_countsBy_17 : decode cX2_countsBy 17 = .ok (.getfield 24, 3) := by decide +kernel
theorem iX2_countsBy_17 (hh : h r = some (a, .inr (3, fs))) (hv : fs[1]? = some v) (g : z_J Z mX2_countsBy R k n Q 20 ls (v :: st) h) : z_J Z mX2_countsBy R k n Q 17 ls (.ref a :: st) h := z_get dX2_countsBy_17 rfl fl_X2_24 hh hv g
def bX2_countsBy_20 : zB := [(20, .astore_n 1, 21, nI 0), (21, .goto (-19), 2, nI 0)]
theorem bX2_countsBy_20_ok : z_ok cX2_countsBy 20 bX2_countsBy_20 2 = true := by decide +kernel
theorem iX2_countsBy_20 (hr : z_run 2 bX2_countsBy_20 ls st = some (ls', st')) (g : z_J Z mX2_countsBy R k n Q 2 ls' st' h) : z_J Z mX2_countsBy R k n Q 20 ls st h := z_jr bX2_countsBy_20 bX2_countsBy_20_ok hr g
def bX2_countsBy_24 : zB := [(24, .aload_n 1, 25, nI 0)]
theorem bX2_countsBy_24_ok : z_ok cX2_countsBy 24 bX2_countsBy_24 25 = true := by decide +kernel
theorem iX2_countsBy_24 (hr : z_run 2 bX2_countsBy_24 ls st = some (ls', st')) (g : z_J Z mX2_countsBy R k n Q 25 ls' st' h) : z_J Z mX2_countsBy R k n Q 24 ls st h := z_jr bX2_countsBy_24 bX2_countsBy_24_ok hr g
theorem dX2_countsBy_25 : decode cX2_countsBy 25 = .ok (.getfield 17, 3) := by decide +kernel
theorem iX2_countsBy_25 (hh : h r = some (a, .inr (3, fs))) (hv : fs[0]? = some v) (g : z_J Z mX2_countsBy R k n Q 28 ls (v :: st) h) : z_J Z mX2_countsBy R k n Q 25 ls (.ref a :: st) h := z_get dX2_countsBy_25 rfl fl_X2_17 hh hv g
theorem dX2_countsBy_28 : decode cX2_countsBy 28 = .ok (.ireturn, 1) := by decide +kernel
theorem iX2_countsBy_28 (hk : k ≤ R.cells) (hs : n ≤ R.slots) (hq : Q (.inl (some (.int x))) h) : z_J Z mX2_countsBy R k n Q 28 ls [.int x] h := z_iret (ty := .int) dX2_countsBy_28 rfl rfl hk hs hq
/-! X3_init -/
def bX3_init_0 : zB := [(0, .aload_n 0, 1, nI 0)]
theorem bX3_init_0_ok : z_ok cX3_init 0 bX3_init_0 1 = true := by decide +kernel
theorem iX3_init_0 (hr : z_run 1 bX3_init_0 ls st = some (ls', st')) (g : z_J Z mX3_init R k n Q 1 ls' st' h) : z_J Z mX3_init R k n Q 0 ls st h := z_jr bX3_init_0 bX3_init_0_ok hr g
theorem dX3_init_1 : decode cX3_init 1 = .ok (.invokespecial 3, 3) := by decide +kernel
theorem iX3_init_1 (hst : (st.map fun v => v.category).sum + 12 ≤ R.locals) (hf : 1 ≤ R.frames) (g : z_J Z mX3_init R k n Q 4 ls st h) : z_J Z mX3_init R k n Q 1 ls (.ref a :: st) h := z_objI dX3_init_1 rfl gw93 gw60 gw_objInit hst hf g
def bX3_init_4 : zB := [(4, .aload_n 0, 5, nI 0), (5, .bipush 40, 7, nI 40)]
theorem bX3_init_4_ok : z_ok cX3_init 4 bX3_init_4 7 = true := by decide +kernel
theorem iX3_init_4 (hr : z_run 1 bX3_init_4 ls st = some (ls', st')) (g : z_J Z mX3_init R k n Q 7 ls' st' h) : z_J Z mX3_init R k n Q 4 ls st h := z_jr bX3_init_4 bX3_init_4_ok hr g
theorem dX3_init_7 : decode cX3_init 7 = .ok (.newarray .int, 2) := by decide +kernel
theorem iX3_init_7 (r : Nat) (hi : i = nI N) (hN : N < 1000) (hR : k + 1 ≤ R.cells ∧ n + N ≤ R.slots) (g : ∀ q, z_J Z mX3_init R (k + 1) (n + N) Q 9 ls (.ref q :: st) (z_u h r (q, .inl (0, N, .inl (fun _ => 0))))) : z_J Z mX3_init R k n Q 7 ls (.int i :: st) h := z_newa r (ty := .int) (t := 0) (a0 := (N, .inl (fun _ => 0))) dX3_init_7 rfl rfl (fun _ => rfl) (fun _ q => by cases q) gw122 (fun _ => rfl) hi hN hR (by show N * 4 ≤ 536870912; omega) g
theorem dX3_init_9 : decode cX3_init 9 = .ok (.putfield 9, 3) := by decide +kernel
theorem iX3_init_9 (hh : h r = some (a, .inr (4, fs))) (hl : Nat.blt 0 fs.length = true) (g : z_J Z mX3_init R k n Q 12 ls st (z_u h r (a, .inr (4, fs.set 0 (.ref b))))) : z_J Z mX3_init R k n Q 9 ls ((.ref b) :: .ref a :: st) h := z_putF dX3_init_9 rfl fl_X3_9 fw_X3_0 rfl rfl rfl hh rfl rfl (by simpa [Nat.blt_eq] using hl) g
theorem iX3_init_9N (hh : h r = some (a, .inr (4, fs))) (hl : Nat.blt 0 fs.length = true) (g : z_J Z mX3_init R k n Q 12 ls st (z_u h r (a, .inr (4, fs.set 0 (.null))))) : z_J Z mX3_init R k n Q 9 ls ((.null) :: .ref a :: st) h := z_putF dX3_init_9 rfl fl_X3_9 fw_X3_0 rfl rfl rfl hh rfl rfl (by simpa [Nat.blt_eq] using hl) g
def bX3_init_12 : zB := [(12, .aload_n 0, 13, nI 0), (13, .bipush 40, 15, nI 40)]
theorem bX3_init_12_ok : z_ok cX3_init 12 bX3_init_12 15 = true := by decide +kernel
theorem iX3_init_12 (hr : z_run 1 bX3_init_12 ls st = some (ls', st')) (g : z_J Z mX3_init R k n Q 15 ls' st' h) : z_J Z mX3_init R k n Q 12 ls st h := z_jr bX3_init_12 bX3_init_12_ok hr g
theorem dX3_init_15 : decode cX3_init 15 = .ok (.newarray .int, 2) := by decide +kernel
theorem iX3_init_15 (r : Nat) (hi : i = nI N) (hN : N < 1000) (hR : k + 1 ≤ R.cells ∧ n + N ≤ R.slots) (g : ∀ q, z_J Z mX3_init R (k + 1) (n + N) Q 17 ls (.ref q :: st) (z_u h r (q, .inl (0, N, .inl (fun _ => 0))))) : z_J Z mX3_init R k n Q 15 ls (.int i :: st) h := z_newa r (ty := .int) (t := 0) (a0 := (N, .inl (fun _ => 0))) dX3_init_15 rfl rfl (fun _ => rfl) (fun _ q => by cases q) gw122 (fun _ => rfl) hi hN hR (by show N * 4 ≤ 536870912; omega) g
theorem dX3_init_17 : decode cX3_init 17 = .ok (.putfield 15, 3) := by decide +kernel
theorem iX3_init_17 (hh : h r = some (a, .inr (4, fs))) (hl : Nat.blt 1 fs.length = true) (g : z_J Z mX3_init R k n Q 20 ls st (z_u h r (a, .inr (4, fs.set 1 (.ref b))))) : z_J Z mX3_init R k n Q 17 ls ((.ref b) :: .ref a :: st) h := z_putF dX3_init_17 rfl fl_X3_15 fw_X3_1 rfl rfl rfl hh rfl rfl (by simpa [Nat.blt_eq] using hl) g
theorem iX3_init_17N (hh : h r = some (a, .inr (4, fs))) (hl : Nat.blt 1 fs.length = true) (g : z_J Z mX3_init R k n Q 20 ls st (z_u h r (a, .inr (4, fs.set 1 (.null))))) : z_J Z mX3_init R k n Q 17 ls ((.null) :: .ref a :: st) h := z_putF dX3_init_17 rfl fl_X3_15 fw_X3_1 rfl rfl rfl hh rfl rfl (by simpa [Nat.blt_eq] using hl) g
def bX3_init_20 : zB := [(20, .aload_n 0, 21, nI 0), (21, .bipush 40, 23, nI 40)]
theorem bX3_init_20_ok : z_ok cX3_init 20 bX3_init_20 23 = true := by decide +kernel
theorem iX3_init_20 (hr : z_run 1 bX3_init_20 ls st = some (ls', st')) (g : z_J Z mX3_init R k n Q 23 ls' st' h) : z_J Z mX3_init R k n Q 20 ls st h := z_jr bX3_init_20 bX3_init_20_ok hr g
theorem dX3_init_23 : decode cX3_init 23 = .ok (.newarray .int, 2) := by decide +kernel
theorem iX3_init_23 (r : Nat) (hi : i = nI N) (hN : N < 1000) (hR : k + 1 ≤ R.cells ∧ n + N ≤ R.slots) (g : ∀ q, z_J Z mX3_init R (k + 1) (n + N) Q 25 ls (.ref q :: st) (z_u h r (q, .inl (0, N, .inl (fun _ => 0))))) : z_J Z mX3_init R k n Q 23 ls (.int i :: st) h := z_newa r (ty := .int) (t := 0) (a0 := (N, .inl (fun _ => 0))) dX3_init_23 rfl rfl (fun _ => rfl) (fun _ q => by cases q) gw122 (fun _ => rfl) hi hN hR (by show N * 4 ≤ 536870912; omega) g
theorem dX3_init_25 : decode cX3_init 25 = .ok (.putfield 18, 3) := by decide +kernel
theorem iX3_init_25 (hh : h r = some (a, .inr (4, fs))) (hl : Nat.blt 2 fs.length = true) (g : z_J Z mX3_init R k n Q 28 ls st (z_u h r (a, .inr (4, fs.set 2 (.ref b))))) : z_J Z mX3_init R k n Q 25 ls ((.ref b) :: .ref a :: st) h := z_putF dX3_init_25 rfl fl_X3_18 fw_X3_2 rfl rfl rfl hh rfl rfl (by simpa [Nat.blt_eq] using hl) g
theorem iX3_init_25N (hh : h r = some (a, .inr (4, fs))) (hl : Nat.blt 2 fs.length = true) (g : z_J Z mX3_init R k n Q 28 ls st (z_u h r (a, .inr (4, fs.set 2 (.null))))) : z_J Z mX3_init R k n Q 25 ls ((.null) :: .ref a :: st) h := z_putF dX3_init_25 rfl fl_X3_18 fw_X3_2 rfl rfl rfl hh rfl rfl (by simpa [Nat.blt_eq] using hl) g
def bX3_init_28 : zB := [(28, .aload_n 0, 29, nI 0), (29, .bipush 40, 31, nI 40)]
theorem bX3_init_28_ok : z_ok cX3_init 28 bX3_init_28 31 = true := by decide +kernel
theorem iX3_init_28 (hr : z_run 1 bX3_init_28 ls st = some (ls', st')) (g : z_J Z mX3_init R k n Q 31 ls' st' h) : z_J Z mX3_init R k n Q 28 ls st h := z_jr bX3_init_28 bX3_init_28_ok hr g
theorem dX3_init_31 : decode cX3_init 31 = .ok (.newarray .int, 2) := by decide +kernel
theorem iX3_init_31 (r : Nat) (hi : i = nI N) (hN : N < 1000) (hR : k + 1 ≤ R.cells ∧ n + N ≤ R.slots) (g : ∀ q, z_J Z mX3_init R (k + 1) (n + N) Q 33 ls (.ref q :: st) (z_u h r (q, .inl (0, N, .inl (fun _ => 0))))) : z_J Z mX3_init R k n Q 31 ls (.int i :: st) h := z_newa r (ty := .int) (t := 0) (a0 := (N, .inl (fun _ => 0))) dX3_init_31 rfl rfl (fun _ => rfl) (fun _ q => by cases q) gw122 (fun _ => rfl) hi hN hR (by show N * 4 ≤ 536870912; omega) g
theorem dX3_init_33 : decode cX3_init 33 = .ok (.putfield 21, 3) := by decide +kernel
theorem iX3_init_33 (hh : h r = some (a, .inr (4, fs))) (hl : Nat.blt 3 fs.length = true) (g : z_J Z mX3_init R k n Q 36 ls st (z_u h r (a, .inr (4, fs.set 3 (.ref b))))) : z_J Z mX3_init R k n Q 33 ls ((.ref b) :: .ref a :: st) h := z_putF dX3_init_33 rfl fl_X3_21 fw_X3_3 rfl rfl rfl hh rfl rfl (by simpa [Nat.blt_eq] using hl) g
theorem iX3_init_33N (hh : h r = some (a, .inr (4, fs))) (hl : Nat.blt 3 fs.length = true) (g : z_J Z mX3_init R k n Q 36 ls st (z_u h r (a, .inr (4, fs.set 3 (.null))))) : z_J Z mX3_init R k n Q 33 ls ((.null) :: .ref a :: st) h := z_putF dX3_init_33 rfl fl_X3_21 fw_X3_3 rfl rfl rfl hh rfl rfl (by simpa [Nat.blt_eq] using hl) g
def bX3_init_36 : zB := [(36, .aload_n 0, 37, nI 0), (37, .bipush 40, 39, nI 40)]
theorem bX3_init_36_ok : z_ok cX3_init 36 bX3_init_36 39 = true := by decide +kernel
theorem iX3_init_36 (hr : z_run 1 bX3_init_36 ls st = some (ls', st')) (g : z_J Z mX3_init R k n Q 39 ls' st' h) : z_J Z mX3_init R k n Q 36 ls st h := z_jr bX3_init_36 bX3_init_36_ok hr g
theorem dX3_init_39 : decode cX3_init 39 = .ok (.newarray .int, 2) := by decide +kernel
theorem iX3_init_39 (r : Nat) (hi : i = nI N) (hN : N < 1000) (hR : k + 1 ≤ R.cells ∧ n + N ≤ R.slots) (g : ∀ q, z_J Z mX3_init R (k + 1) (n + N) Q 41 ls (.ref q :: st) (z_u h r (q, .inl (0, N, .inl (fun _ => 0))))) : z_J Z mX3_init R k n Q 39 ls (.int i :: st) h := z_newa r (ty := .int) (t := 0) (a0 := (N, .inl (fun _ => 0))) dX3_init_39 rfl rfl (fun _ => rfl) (fun _ q => by cases q) gw122 (fun _ => rfl) hi hN hR (by show N * 4 ≤ 536870912; omega) g
theorem dX3_init_41 : decode cX3_init 41 = .ok (.putfield 24, 3) := by decide +kernel
theorem iX3_init_41 (hh : h r = some (a, .inr (4, fs))) (hl : Nat.blt 4 fs.length = true) (g : z_J Z mX3_init R k n Q 44 ls st (z_u h r (a, .inr (4, fs.set 4 (.ref b))))) : z_J Z mX3_init R k n Q 41 ls ((.ref b) :: .ref a :: st) h := z_putF dX3_init_41 rfl fl_X3_24 fw_X3_4 rfl rfl rfl hh rfl rfl (by simpa [Nat.blt_eq] using hl) g
theorem iX3_init_41N (hh : h r = some (a, .inr (4, fs))) (hl : Nat.blt 4 fs.length = true) (g : z_J Z mX3_init R k n Q 44 ls st (z_u h r (a, .inr (4, fs.set 4 (.null))))) : z_J Z mX3_init R k n Q 41 ls ((.null) :: .ref a :: st) h := z_putF dX3_init_41 rfl fl_X3_24 fw_X3_4 rfl rfl rfl hh rfl rfl (by simpa [Nat.blt_eq] using hl) g
def bX3_init_44 : zB := [(44, .aload_n 0, 45, nI 0), (45, .bipush 40, 47, nI 40)]
theorem bX3_init_44_ok : z_ok cX3_init 44 bX3_init_44 47 = true := by decide +kernel
theorem iX3_init_44 (hr : z_run 1 bX3_init_44 ls st = some (ls', st')) (g : z_J Z mX3_init R k n Q 47 ls' st' h) : z_J Z mX3_init R k n Q 44 ls st h := z_jr bX3_init_44 bX3_init_44_ok hr g
theorem dX3_init_47 : decode cX3_init 47 = .ok (.newarray .int, 2) := by decide +kernel
theorem iX3_init_47 (r : Nat) (hi : i = nI N) (hN : N < 1000) (hR : k + 1 ≤ R.cells ∧ n + N ≤ R.slots) (g : ∀ q, z_J Z mX3_init R (k + 1) (n + N) Q 49 ls (.ref q :: st) (z_u h r (q, .inl (0, N, .inl (fun _ => 0))))) : z_J Z mX3_init R k n Q 47 ls (.int i :: st) h := z_newa r (ty := .int) (t := 0) (a0 := (N, .inl (fun _ => 0))) dX3_init_47 rfl rfl (fun _ => rfl) (fun _ q => by cases q) gw122 (fun _ => rfl) hi hN hR (by show N * 4 ≤ 536870912; omega) g
theorem dX3_init_49 : decode cX3_init 49 = .ok (.putfield 27, 3) := by decide +kernel
theorem iX3_init_49 (hh : h r = some (a, .inr (4, fs))) (hl : Nat.blt 6 fs.length = true) (g : z_J Z mX3_init R k n Q 52 ls st (z_u h r (a, .inr (4, fs.set 6 (.ref b))))) : z_J Z mX3_init R k n Q 49 ls ((.ref b) :: .ref a :: st) h := z_putF dX3_init_49 rfl fl_X3_27 fw_X3_6 rfl rfl rfl hh rfl rfl (by simpa [Nat.blt_eq] using hl) g
theorem iX3_init_49N (hh : h r = some (a, .inr (4, fs))) (hl : Nat.blt 6 fs.length = true) (g : z_J Z mX3_init R k n Q 52 ls st (z_u h r (a, .inr (4, fs.set 6 (.null))))) : z_J Z mX3_init R k n Q 49 ls ((.null) :: .ref a :: st) h := z_putF dX3_init_49 rfl fl_X3_27 fw_X3_6 rfl rfl rfl hh rfl rfl (by simpa [Nat.blt_eq] using hl) g
theorem dX3_init_52 : decode cX3_init 52 = .ok (.return_, 1) := by decide +kernel
theorem iX3_init_52 (hk : k ≤ R.cells) (hs : n ≤ R.slots) (hq : Q (.inl none) h) : z_J Z mX3_init R k n Q 52 ls [] h := z_vret dX3_init_52 rfl hk hs hq
/-! X3_clear -/
def bX3_clear_0 : zB := [(0, .aload_n 0, 1, nI 0), (1, .iconst 0, 2, nI 0)]
theorem bX3_clear_0_ok : z_ok cX3_clear 0 bX3_clear_0 2 = true := by decide +kernel
theorem iX3_clear_0 (hr : z_run 1 bX3_clear_0 ls st = some (ls', st')) (g : z_J Z mX3_clear R k n Q 2 ls' st' h) : z_J Z mX3_clear R k n Q 0 ls st h := z_jr bX3_clear_0 bX3_clear_0_ok hr g
theorem dX3_clear_2 : decode cX3_clear 2 = .ok (.putfield 30, 3) := by decide +kernel
theorem iX3_clear_2 (hh : h r = some (a, .inr (4, fs))) (hl : Nat.blt 5 fs.length = true) (g : z_J Z mX3_clear R k n Q 5 ls st (z_u h r (a, .inr (4, fs.set 5 (.int x))))) : z_J Z mX3_clear R k n Q 2 ls ((.int x) :: .ref a :: st) h := z_put dX3_clear_2 rfl fl_X3_30 fw_X3_5 rfl hh rfl rfl (by simpa [Nat.blt_eq] using hl) g
def bX3_clear_5 : zB := [(5, .aload_n 0, 6, nI 0)]
theorem bX3_clear_5_ok : z_ok cX3_clear 5 bX3_clear_5 6 = true := by decide +kernel
theorem iX3_clear_5 (hr : z_run 1 bX3_clear_5 ls st = some (ls', st')) (g : z_J Z mX3_clear R k n Q 6 ls' st' h) : z_J Z mX3_clear R k n Q 5 ls st h := z_jr bX3_clear_5 bX3_clear_5_ok hr g
theorem dX3_clear_6 : decode cX3_clear 6 = .ok (.getfield 27, 3) := by decide +kernel
theorem iX3_clear_6 (hh : h r = some (a, .inr (4, fs))) (hv : fs[6]? = some v) (g : z_J Z mX3_clear R k n Q 9 ls (v :: st) h) : z_J Z mX3_clear R k n Q 6 ls (.ref a :: st) h := z_get dX3_clear_6 rfl fl_X3_27 hh hv g
def bX3_clear_9 : zB := [(9, .iconst 0, 10, nI 0)]
theorem bX3_clear_9_ok : z_ok cX3_clear 9 bX3_clear_9 10 = true := by decide +kernel
theorem iX3_clear_9 (hr : z_run 1 bX3_clear_9 ls st = some (ls', st')) (g : z_J Z mX3_clear R k n Q 10 ls' st' h) : z_J Z mX3_clear R k n Q 9 ls st h := z_jr bX3_clear_9 bX3_clear_9_ok hr g
theorem dX3_clear_10 : decode cX3_clear 10 = .ok (.invokestatic 34, 3) := by decide +kernel
theorem iX3_clear_10 (ha : z_args 2 st [] = some (As, rest)) (hc : z_chk rest As 4 = true) (hR : z_rm R R' 4 k n) (gc : z_J Z mJ7_fill_53178 R' 0 0 Q' 0 As [] h) (kr : ∀ (v : Option Value) (h' : zH), Q' (.inl v) h' → z_J Z mX3_clear R (k + R'.cells) (n + R'.slots) Q 13 ls (v.toList ++ rest) h') (kx : ∀ (E : String) (h' : zH), Q' (.inr E) h' → z_JX Z mX3_clear R (k + R'.cells) (n + R'.slots) Q 10 ls E h') : z_J Z mX3_clear R k n Q 10 ls st h := z_callS (M' := mJ7_fill_53178) dX3_clear_10 rfl cs_X3_34 gw160 ha hR (z_chk1 hc) (z_chk2 hc) (z_chk3 hc) gc kr kx
theorem dX3_clear_13 : decode cX3_clear 13 = .ok (.return_, 1) := by decide +kernel
theorem iX3_clear_13 (hk : k ≤ R.cells) (hs : n ≤ R.slots) (hq : Q (.inl none) h) : z_J Z mX3_clear R k n Q 13 ls [] h := z_vret dX3_clear_13 rfl hk hs hq
/-! X3_raise -/
def bX3_raise_0 : zB := [(0, .iload_n 1, 1, nI 0), (1, .iconst 5, 2, nI 5), (2, .imul, 3, nI 0), (3, .iload_n 2, 4, nI 0), (4, .iadd, 5, nI 0), (5, .istore 4, 7, nI 0), (7, .iload 4, 9, nI 0)]
theorem bX3_raise_0_ok : z_ok cX3_raise 0 bX3_raise_0 9 = true := by decide +kernel
theorem iX3_raise_0 (hr : z_run 5 bX3_raise_0 ls st = some (ls', st')) (g : z_J Z mX3_raise R k n Q 9 ls' st' h) : z_J Z mX3_raise R k n Q 0 ls st h := z_jr bX3_raise_0 bX3_raise_0_ok hr g
theorem dX3_raise_9 : decode cX3_raise 9 = .ok (.ifCond .lt 28, 3) := by decide +kernel
theorem iX3_raise_9 (kt : x < 0 → z_J Z mX3_raise R k n Q 37 ls st h) (kf : ¬ x < 0 → z_J Z mX3_raise R k n Q 12 ls st h) : z_J Z mX3_raise R k n Q 9 ls (.int x :: st) h := z_if_lt dX3_raise_9 (tgt := 37) (by decide) rfl kt kf
def bX3_raise_12 : zB := [(12, .iload 4, 14, nI 0), (14, .bipush 40, 16, nI 40)]
theorem bX3_raise_12_ok : z_ok cX3_raise 12 bX3_raise_12 16 = true := by decide +kernel
theorem iX3_raise_12 (hr : z_run 5 bX3_raise_12 ls st = some (ls', st')) (g : z_J Z mX3_raise R k n Q 16 ls' st' h) : z_J Z mX3_raise R k n Q 12 ls st h := z_jr bX3_raise_12 bX3_raise_12_ok hr g
theorem dX3_raise_16 : decode cX3_raise 16 = .ok (.if_icmp .ge 21, 3) := by decide +kernel
theorem iX3_raise_16 (kt : y ≤ x → z_J Z mX3_raise R k n Q 37 ls st h) (kf : ¬ y ≤ x → z_J Z mX3_raise R k n Q 19 ls st h) : z_J Z mX3_raise R k n Q 16 ls (.int y :: .int x :: st) h := z_ic_ge dX3_raise_16 (tgt := 37) (by decide) rfl kt kf
def bX3_raise_19 : zB := [(19, .aload_n 0, 20, nI 0)]
theorem bX3_raise_19_ok : z_ok cX3_raise 19 bX3_raise_19 20 = true := by decide +kernel
theorem iX3_raise_19 (hr : z_run 5 bX3_raise_19 ls st = some (ls', st')) (g : z_J Z mX3_raise R k n Q 20 ls' st' h) : z_J Z mX3_raise R k n Q 19 ls st h := z_jr bX3_raise_19 bX3_raise_19_ok hr g
theorem dX3_raise_20 : decode cX3_raise 20 = .ok (.getfield 27, 3) := by decide +kernel
theorem iX3_raise_20 (hh : h r = some (a, .inr (4, fs))) (hv : fs[6]? = some v) (g : z_J Z mX3_raise R k n Q 23 ls (v :: st) h) : z_J Z mX3_raise R k n Q 20 ls (.ref a :: st) h := z_get dX3_raise_20 rfl fl_X3_27 hh hv g
def bX3_raise_23 : zB := [(23, .iload 4, 25, nI 0), (25, .aload_n 0, 26, nI 0)]
theorem bX3_raise_23_ok : z_ok cX3_raise 23 bX3_raise_23 26 = true := by decide +kernel
theorem iX3_raise_23 (hr : z_run 5 bX3_raise_23 ls st = some (ls', st')) (g : z_J Z mX3_raise R k n Q 26 ls' st' h) : z_J Z mX3_raise R k n Q 23 ls st h := z_jr bX3_raise_23 bX3_raise_23_ok hr g
theorem dX3_raise_26 : decode cX3_raise 26 = .ok (.getfield 27, 3) := by decide +kernel
theorem iX3_raise_26 (hh : h r = some (a, .inr (4, fs))) (hv : fs[6]? = some v) (g : z_J Z mX3_raise R k n Q 29 ls (v :: st) h) : z_J Z mX3_raise R k n Q 26 ls (.ref a :: st) h := z_get dX3_raise_26 rfl fl_X3_27 hh hv g
def bX3_raise_29 : zB := [(29, .iload 4, 31, nI 0)]
theorem bX3_raise_29_ok : z_ok cX3_raise 29 bX3_raise_29 31 = true := by decide +kernel
theorem iX3_raise_29 (hr : z_run 5 bX3_raise_29 ls st = some (ls', st')) (g : z_J Z mX3_raise R k n Q 31 ls' st' h) : z_J Z mX3_raise R k n Q 29 ls st h := z_jr bX3_raise_29 bX3_raise_29_ok hr g
theorem dX3_raise_31 : decode cX3_raise 31 = .ok (.iaload, 1) := by decide +kernel
theorem iX3_raise_31 {f : Nat → Int32} (hh : h r = some (a, .inl (0, N, .inl f))) (hi : i = nI j) (hj : j < N) (hN : N < 2 ^ 31) (g : z_J Z mX3_raise R k n Q 32 ls (.int (f j) :: st) h) : z_J Z mX3_raise R k n Q 31 ls (.int i :: .ref a :: st) h := z_iald dX3_raise_31 rfl hh hi hj hN g
def bX3_raise_32 : zB := [(32, .iload_n 3, 33, nI 0)]
theorem bX3_raise_32_ok : z_ok cX3_raise 32 bX3_raise_32 33 = true := by decide +kernel
theorem iX3_raise_32 (hr : z_run 5 bX3_raise_32 ls st = some (ls', st')) (g : z_J Z mX3_raise R k n Q 33 ls' st' h) : z_J Z mX3_raise R k n Q 32 ls st h := z_jr bX3_raise_32 bX3_raise_32_ok hr g
theorem dX3_raise_33 : decode cX3_raise 33 = .ok (.invokestatic 40, 3) := by decide +kernel
theorem iX3_raise_33 (hc : z_mchk R st k n = true) (g : z_J Z mX3_raise R k n Q 36 ls (.int (if x < y then y else x) :: st) h) : z_J Z mX3_raise R k n Q 33 ls (.int y :: .int x :: st) h := z_mmax dX3_raise_33 rfl gw582 gw330 gw47 gw_mmax hc g
theorem dX3_raise_36 : decode cX3_raise 36 = .ok (.iastore, 1) := by decide +kernel
theorem iX3_raise_36 {f : Nat → Int32} (hh : h r = some (a, .inl (0, N, .inl f))) (hi : i = nI j) (hj : j < N) (hN : N < 2 ^ 31) (g : z_J Z mX3_raise R k n Q 37 ls st (z_u h r (a, .inl (0, N, .inl (upd f j x))))) : z_J Z mX3_raise R k n Q 36 ls (.int x :: .int i :: .ref a :: st) h := z_iast dX3_raise_36 rfl hh hi hj hN g
theorem dX3_raise_37 : decode cX3_raise 37 = .ok (.return_, 1) := by decide +kernel
theorem iX3_raise_37 (hk : k ≤ R.cells) (hs : n ≤ R.slots) (hq : Q (.inl none) h) : z_J Z mX3_raise R k n Q 37 ls [] h := z_vret dX3_raise_37 rfl hk hs hq
/-! X3_addIfRaised -/
def bX3_addIfRaised_0 : zB := [(0, .iload_n 1, 1, nI 0), (1, .iconst 5, 2, nI 5), (2, .imul, 3, nI 0), (3, .iload_n 2, 4, nI 0), (4, .iadd, 5, nI 0), (5, .istore 4, 7, nI 0), (7, .iload 4, 9, nI 0)]
theorem bX3_addIfRaised_0_ok : z_ok cX3_addIfRaised 0 bX3_addIfRaised_0 9 = true := by decide +kernel
theorem iX3_addIfRaised_0 (hr : z_run 5 bX3_addIfRaised_0 ls st = some (ls', st')) (g : z_J Z mX3_addIfRaised R k n Q 9 ls' st' h) : z_J Z mX3_addIfRaised R k n Q 0 ls st h := z_jr bX3_addIfRaised_0 bX3_addIfRaised_0_ok hr g
theorem dX3_addIfRaised_9 : decode cX3_addIfRaised 9 = .ok (.ifCond .lt 29, 3) := by decide +kernel
theorem iX3_addIfRaised_9 (kt : x < 0 → z_J Z mX3_addIfRaised R k n Q 38 ls st h) (kf : ¬ x < 0 → z_J Z mX3_addIfRaised R k n Q 12 ls st h) : z_J Z mX3_addIfRaised R k n Q 9 ls (.int x :: st) h := z_if_lt dX3_addIfRaised_9 (tgt := 38) (by decide) rfl kt kf
def bX3_addIfRaised_12 : zB := [(12, .iload 4, 14, nI 0), (14, .bipush 40, 16, nI 40)]
theorem bX3_addIfRaised_12_ok : z_ok cX3_addIfRaised 12 bX3_addIfRaised_12 16 = true := by decide +kernel
theorem iX3_addIfRaised_12 (hr : z_run 5 bX3_addIfRaised_12 ls st = some (ls', st')) (g : z_J Z mX3_addIfRaised R k n Q 16 ls' st' h) : z_J Z mX3_addIfRaised R k n Q 12 ls st h := z_jr bX3_addIfRaised_12 bX3_addIfRaised_12_ok hr g
theorem dX3_addIfRaised_16 : decode cX3_addIfRaised 16 = .ok (.if_icmp .ge 22, 3) := by decide +kernel
theorem iX3_addIfRaised_16 (kt : y ≤ x → z_J Z mX3_addIfRaised R k n Q 38 ls st h) (kf : ¬ y ≤ x → z_J Z mX3_addIfRaised R k n Q 19 ls st h) : z_J Z mX3_addIfRaised R k n Q 16 ls (.int y :: .int x :: st) h := z_ic_ge dX3_addIfRaised_16 (tgt := 38) (by decide) rfl kt kf
def bX3_addIfRaised_19 : zB := [(19, .aload_n 0, 20, nI 0)]
theorem bX3_addIfRaised_19_ok : z_ok cX3_addIfRaised 19 bX3_addIfRaised_19 20 = true := by decide +kernel
theorem iX3_addIfRaised_19 (hr : z_run 5 bX3_addIfRaised_19 ls st = some (ls', st')) (g : z_J Z mX3_addIfRaised R k n Q 20 ls' st' h) : z_J Z mX3_addIfRaised R k n Q 19 ls st h := z_jr bX3_addIfRaised_19 bX3_addIfRaised_19_ok hr g
theorem dX3_addIfRaised_20 : decode cX3_addIfRaised 20 = .ok (.getfield 27, 3) := by decide +kernel
theorem iX3_addIfRaised_20 (hh : h r = some (a, .inr (4, fs))) (hv : fs[6]? = some v) (g : z_J Z mX3_addIfRaised R k n Q 23 ls (v :: st) h) : z_J Z mX3_addIfRaised R k n Q 20 ls (.ref a :: st) h := z_get dX3_addIfRaised_20 rfl fl_X3_27 hh hv g
def bX3_addIfRaised_23 : zB := [(23, .iload 4, 25, nI 0)]
theorem bX3_addIfRaised_23_ok : z_ok cX3_addIfRaised 23 bX3_addIfRaised_23 25 = true := by decide +kernel
theorem iX3_addIfRaised_23 (hr : z_run 5 bX3_addIfRaised_23 ls st = some (ls', st')) (g : z_J Z mX3_addIfRaised R k n Q 25 ls' st' h) : z_J Z mX3_addIfRaised R k n Q 23 ls st h := z_jr bX3_addIfRaised_23 bX3_addIfRaised_23_ok hr g
theorem dX3_addIfRaised_25 : decode cX3_addIfRaised 25 = .ok (.iaload, 1) := by decide +kernel
theorem iX3_addIfRaised_25 {f : Nat → Int32} (hh : h r = some (a, .inl (0, N, .inl f))) (hi : i = nI j) (hj : j < N) (hN : N < 2 ^ 31) (g : z_J Z mX3_addIfRaised R k n Q 26 ls (.int (f j) :: st) h) : z_J Z mX3_addIfRaised R k n Q 25 ls (.int i :: .ref a :: st) h := z_iald dX3_addIfRaised_25 rfl hh hi hj hN g
theorem dX3_addIfRaised_26 : decode cX3_addIfRaised 26 = .ok (.ifCond .eq 12, 3) := by decide +kernel
theorem iX3_addIfRaised_26 (kt : x = 0 → z_J Z mX3_addIfRaised R k n Q 38 ls st h) (kf : ¬ x = 0 → z_J Z mX3_addIfRaised R k n Q 29 ls st h) : z_J Z mX3_addIfRaised R k n Q 26 ls (.int x :: st) h := z_if_eq dX3_addIfRaised_26 (tgt := 38) (by decide) rfl kt kf
def bX3_addIfRaised_29 : zB := [(29, .aload_n 0, 30, nI 0)]
theorem bX3_addIfRaised_29_ok : z_ok cX3_addIfRaised 29 bX3_addIfRaised_29 30 = true := by decide +kernel
theorem iX3_addIfRaised_29 (hr : z_run 5 bX3_addIfRaised_29 ls st = some (ls', st')) (g : z_J Z mX3_addIfRaised R k n Q 30 ls' st' h) : z_J Z mX3_addIfRaised R k n Q 29 ls st h := z_jr bX3_addIfRaised_29 bX3_addIfRaised_29_ok hr g
theorem dX3_addIfRaised_30 : decode cX3_addIfRaised 30 = .ok (.getfield 30, 3) := by decide +kernel
theorem iX3_addIfRaised_30 (hh : h r = some (a, .inr (4, fs))) (hv : fs[5]? = some v) (g : z_J Z mX3_addIfRaised R k n Q 33 ls (v :: st) h) : z_J Z mX3_addIfRaised R k n Q 30 ls (.ref a :: st) h := z_get dX3_addIfRaised_30 rfl fl_X3_30 hh hv g
def bX3_addIfRaised_33 : zB := [(33, .bipush 40, 35, nI 40)]
theorem bX3_addIfRaised_33_ok : z_ok cX3_addIfRaised 33 bX3_addIfRaised_33 35 = true := by decide +kernel
theorem iX3_addIfRaised_33 (hr : z_run 5 bX3_addIfRaised_33 ls st = some (ls', st')) (g : z_J Z mX3_addIfRaised R k n Q 35 ls' st' h) : z_J Z mX3_addIfRaised R k n Q 33 ls st h := z_jr bX3_addIfRaised_33 bX3_addIfRaised_33_ok hr g
theorem dX3_addIfRaised_35 : decode cX3_addIfRaised 35 = .ok (.if_icmp .lt 4, 3) := by decide +kernel
theorem iX3_addIfRaised_35 (kt : x < y → z_J Z mX3_addIfRaised R k n Q 39 ls st h) (kf : ¬ x < y → z_J Z mX3_addIfRaised R k n Q 38 ls st h) : z_J Z mX3_addIfRaised R k n Q 35 ls (.int y :: .int x :: st) h := z_ic_lt dX3_addIfRaised_35 (tgt := 39) (by decide) rfl kt kf
theorem dX3_addIfRaised_38 : decode cX3_addIfRaised 38 = .ok (.return_, 1) := by decide +kernel
theorem iX3_addIfRaised_38 (hk : k ≤ R.cells) (hs : n ≤ R.slots) (hq : Q (.inl none) h) : z_J Z mX3_addIfRaised R k n Q 38 ls [] h := z_vret dX3_addIfRaised_38 rfl hk hs hq
def bX3_addIfRaised_39 : zB := [(39, .aload_n 0, 40, nI 0)]
theorem bX3_addIfRaised_39_ok : z_ok cX3_addIfRaised 39 bX3_addIfRaised_39 40 = true := by decide +kernel
theorem iX3_addIfRaised_39 (hr : z_run 5 bX3_addIfRaised_39 ls st = some (ls', st')) (g : z_J Z mX3_addIfRaised R k n Q 40 ls' st' h) : z_J Z mX3_addIfRaised R k n Q 39 ls st h := z_jr bX3_addIfRaised_39 bX3_addIfRaised_39_ok hr g
theorem dX3_addIfRaised_40 : decode cX3_addIfRaised 40 = .ok (.getfield 9, 3) := by decide +kernel
theorem iX3_addIfRaised_40 (hh : h r = some (a, .inr (4, fs))) (hv : fs[0]? = some v) (g : z_J Z mX3_addIfRaised R k n Q 43 ls (v :: st) h) : z_J Z mX3_addIfRaised R k n Q 40 ls (.ref a :: st) h := z_get dX3_addIfRaised_40 rfl fl_X3_9 hh hv g
def bX3_addIfRaised_43 : zB := [(43, .aload_n 0, 44, nI 0)]
theorem bX3_addIfRaised_43_ok : z_ok cX3_addIfRaised 43 bX3_addIfRaised_43 44 = true := by decide +kernel
theorem iX3_addIfRaised_43 (hr : z_run 5 bX3_addIfRaised_43 ls st = some (ls', st')) (g : z_J Z mX3_addIfRaised R k n Q 44 ls' st' h) : z_J Z mX3_addIfRaised R k n Q 43 ls st h := z_jr bX3_addIfRaised_43 bX3_addIfRaised_43_ok hr g
theorem dX3_addIfRaised_44 : decode cX3_addIfRaised 44 = .ok (.getfield 30, 3) := by decide +kernel
theorem iX3_addIfRaised_44 (hh : h r = some (a, .inr (4, fs))) (hv : fs[5]? = some v) (g : z_J Z mX3_addIfRaised R k n Q 47 ls (v :: st) h) : z_J Z mX3_addIfRaised R k n Q 44 ls (.ref a :: st) h := z_get dX3_addIfRaised_44 rfl fl_X3_30 hh hv g
def bX3_addIfRaised_47 : zB := [(47, .iload_n 1, 48, nI 0)]
theorem bX3_addIfRaised_47_ok : z_ok cX3_addIfRaised 47 bX3_addIfRaised_47 48 = true := by decide +kernel
theorem iX3_addIfRaised_47 (hr : z_run 5 bX3_addIfRaised_47 ls st = some (ls', st')) (g : z_J Z mX3_addIfRaised R k n Q 48 ls' st' h) : z_J Z mX3_addIfRaised R k n Q 47 ls st h := z_jr bX3_addIfRaised_47 bX3_addIfRaised_47_ok hr g
theorem dX3_addIfRaised_48 : decode cX3_addIfRaised 48 = .ok (.iastore, 1) := by decide +kernel
theorem iX3_addIfRaised_48 {f : Nat → Int32} (hh : h r = some (a, .inl (0, N, .inl f))) (hi : i = nI j) (hj : j < N) (hN : N < 2 ^ 31) (g : z_J Z mX3_addIfRaised R k n Q 49 ls st (z_u h r (a, .inl (0, N, .inl (upd f j x))))) : z_J Z mX3_addIfRaised R k n Q 48 ls (.int x :: .int i :: .ref a :: st) h := z_iast dX3_addIfRaised_48 rfl hh hi hj hN g
def bX3_addIfRaised_49 : zB := [(49, .aload_n 0, 50, nI 0)]
theorem bX3_addIfRaised_49_ok : z_ok cX3_addIfRaised 49 bX3_addIfRaised_49 50 = true := by decide +kernel
theorem iX3_addIfRaised_49 (hr : z_run 5 bX3_addIfRaised_49 ls st = some (ls', st')) (g : z_J Z mX3_addIfRaised R k n Q 50 ls' st' h) : z_J Z mX3_addIfRaised R k n Q 49 ls st h := z_jr bX3_addIfRaised_49 bX3_addIfRaised_49_ok hr g
theorem dX3_addIfRaised_50 : decode cX3_addIfRaised 50 = .ok (.getfield 15, 3) := by decide +kernel
theorem iX3_addIfRaised_50 (hh : h r = some (a, .inr (4, fs))) (hv : fs[1]? = some v) (g : z_J Z mX3_addIfRaised R k n Q 53 ls (v :: st) h) : z_J Z mX3_addIfRaised R k n Q 50 ls (.ref a :: st) h := z_get dX3_addIfRaised_50 rfl fl_X3_15 hh hv g
def bX3_addIfRaised_53 : zB := [(53, .aload_n 0, 54, nI 0)]
theorem bX3_addIfRaised_53_ok : z_ok cX3_addIfRaised 53 bX3_addIfRaised_53 54 = true := by decide +kernel
theorem iX3_addIfRaised_53 (hr : z_run 5 bX3_addIfRaised_53 ls st = some (ls', st')) (g : z_J Z mX3_addIfRaised R k n Q 54 ls' st' h) : z_J Z mX3_addIfRaised R k n Q 53 ls st h := z_jr bX3_addIfRaised_53 bX3_addIfRaised_53_ok hr g
theorem dX3_addIfRaised_54 : decode cX3_addIfRaised 54 = .ok (.getfield 30, 3) := by decide +kernel
theorem iX3_addIfRaised_54 (hh : h r = some (a, .inr (4, fs))) (hv : fs[5]? = some v) (g : z_J Z mX3_addIfRaised R k n Q 57 ls (v :: st) h) : z_J Z mX3_addIfRaised R k n Q 54 ls (.ref a :: st) h := z_get dX3_addIfRaised_54 rfl fl_X3_30 hh hv g
def bX3_addIfRaised_57 : zB := [(57, .iload_n 2, 58, nI 0)]
theorem bX3_addIfRaised_57_ok : z_ok cX3_addIfRaised 57 bX3_addIfRaised_57 58 = true := by decide +kernel
theorem iX3_addIfRaised_57 (hr : z_run 5 bX3_addIfRaised_57 ls st = some (ls', st')) (g : z_J Z mX3_addIfRaised R k n Q 58 ls' st' h) : z_J Z mX3_addIfRaised R k n Q 57 ls st h := z_jr bX3_addIfRaised_57 bX3_addIfRaised_57_ok hr g
theorem dX3_addIfRaised_58 : decode cX3_addIfRaised 58 = .ok (.iastore, 1) := by decide +kernel
theorem iX3_addIfRaised_58 {f : Nat → Int32} (hh : h r = some (a, .inl (0, N, .inl f))) (hi : i = nI j) (hj : j < N) (hN : N < 2 ^ 31) (g : z_J Z mX3_addIfRaised R k n Q 59 ls st (z_u h r (a, .inl (0, N, .inl (upd f j x))))) : z_J Z mX3_addIfRaised R k n Q 58 ls (.int x :: .int i :: .ref a :: st) h := z_iast dX3_addIfRaised_58 rfl hh hi hj hN g
def bX3_addIfRaised_59 : zB := [(59, .aload_n 0, 60, nI 0)]
theorem bX3_addIfRaised_59_ok : z_ok cX3_addIfRaised 59 bX3_addIfRaised_59 60 = true := by decide +kernel
theorem iX3_addIfRaised_59 (hr : z_run 5 bX3_addIfRaised_59 ls st = some (ls', st')) (g : z_J Z mX3_addIfRaised R k n Q 60 ls' st' h) : z_J Z mX3_addIfRaised R k n Q 59 ls st h := z_jr bX3_addIfRaised_59 bX3_addIfRaised_59_ok hr g
theorem dX3_addIfRaised_60 : decode cX3_addIfRaised 60 = .ok (.getfield 18, 3) := by decide +kernel
theorem iX3_addIfRaised_60 (hh : h r = some (a, .inr (4, fs))) (hv : fs[2]? = some v) (g : z_J Z mX3_addIfRaised R k n Q 63 ls (v :: st) h) : z_J Z mX3_addIfRaised R k n Q 60 ls (.ref a :: st) h := z_get dX3_addIfRaised_60 rfl fl_X3_18 hh hv g
def bX3_addIfRaised_63 : zB := [(63, .aload_n 0, 64, nI 0)]
theorem bX3_addIfRaised_63_ok : z_ok cX3_addIfRaised 63 bX3_addIfRaised_63 64 = true := by decide +kernel
theorem iX3_addIfRaised_63 (hr : z_run 5 bX3_addIfRaised_63 ls st = some (ls', st')) (g : z_J Z mX3_addIfRaised R k n Q 64 ls' st' h) : z_J Z mX3_addIfRaised R k n Q 63 ls st h := z_jr bX3_addIfRaised_63 bX3_addIfRaised_63_ok hr g
theorem dX3_addIfRaised_64 : decode cX3_addIfRaised 64 = .ok (.getfield 30, 3) := by decide +kernel
theorem iX3_addIfRaised_64 (hh : h r = some (a, .inr (4, fs))) (hv : fs[5]? = some v) (g : z_J Z mX3_addIfRaised R k n Q 67 ls (v :: st) h) : z_J Z mX3_addIfRaised R k n Q 64 ls (.ref a :: st) h := z_get dX3_addIfRaised_64 rfl fl_X3_30 hh hv g
def bX3_addIfRaised_67 : zB := [(67, .aload_n 0, 68, nI 0)]
theorem bX3_addIfRaised_67_ok : z_ok cX3_addIfRaised 67 bX3_addIfRaised_67 68 = true := by decide +kernel
theorem iX3_addIfRaised_67 (hr : z_run 5 bX3_addIfRaised_67 ls st = some (ls', st')) (g : z_J Z mX3_addIfRaised R k n Q 68 ls' st' h) : z_J Z mX3_addIfRaised R k n Q 67 ls st h := z_jr bX3_addIfRaised_67 bX3_addIfRaised_67_ok hr g
theorem dX3_addIfRaised_68 : decode cX3_addIfRaised 68 = .ok (.getfield 27, 3) := by decide +kernel
theorem iX3_addIfRaised_68 (hh : h r = some (a, .inr (4, fs))) (hv : fs[6]? = some v) (g : z_J Z mX3_addIfRaised R k n Q 71 ls (v :: st) h) : z_J Z mX3_addIfRaised R k n Q 68 ls (.ref a :: st) h := z_get dX3_addIfRaised_68 rfl fl_X3_27 hh hv g
def bX3_addIfRaised_71 : zB := [(71, .iload 4, 73, nI 0)]
theorem bX3_addIfRaised_71_ok : z_ok cX3_addIfRaised 71 bX3_addIfRaised_71 73 = true := by decide +kernel
theorem iX3_addIfRaised_71 (hr : z_run 5 bX3_addIfRaised_71 ls st = some (ls', st')) (g : z_J Z mX3_addIfRaised R k n Q 73 ls' st' h) : z_J Z mX3_addIfRaised R k n Q 71 ls st h := z_jr bX3_addIfRaised_71 bX3_addIfRaised_71_ok hr g
theorem dX3_addIfRaised_73 : decode cX3_addIfRaised 73 = .ok (.iaload, 1) := by decide +kernel
theorem iX3_addIfRaised_73 {f : Nat → Int32} (hh : h r = some (a, .inl (0, N, .inl f))) (hi : i = nI j) (hj : j < N) (hN : N < 2 ^ 31) (g : z_J Z mX3_addIfRaised R k n Q 74 ls (.int (f j) :: st) h) : z_J Z mX3_addIfRaised R k n Q 73 ls (.int i :: .ref a :: st) h := z_iald dX3_addIfRaised_73 rfl hh hi hj hN g
theorem dX3_addIfRaised_74 : decode cX3_addIfRaised 74 = .ok (.iastore, 1) := by decide +kernel
theorem iX3_addIfRaised_74 {f : Nat → Int32} (hh : h r = some (a, .inl (0, N, .inl f))) (hi : i = nI j) (hj : j < N) (hN : N < 2 ^ 31) (g : z_J Z mX3_addIfRaised R k n Q 75 ls st (z_u h r (a, .inl (0, N, .inl (upd f j x))))) : z_J Z mX3_addIfRaised R k n Q 74 ls (.int x :: .int i :: .ref a :: st) h := z_iast dX3_addIfRaised_74 rfl hh hi hj hN g
def bX3_addIfRaised_75 : zB := [(75, .aload_n 0, 76, nI 0)]
theorem bX3_addIfRaised_75_ok : z_ok cX3_addIfRaised 75 bX3_addIfRaised_75 76 = true := by decide +kernel
theorem iX3_addIfRaised_75 (hr : z_run 5 bX3_addIfRaised_75 ls st = some (ls', st')) (g : z_J Z mX3_addIfRaised R k n Q 76 ls' st' h) : z_J Z mX3_addIfRaised R k n Q 75 ls st h := z_jr bX3_addIfRaised_75 bX3_addIfRaised_75_ok hr g
theorem dX3_addIfRaised_76 : decode cX3_addIfRaised 76 = .ok (.getfield 21, 3) := by decide +kernel
theorem iX3_addIfRaised_76 (hh : h r = some (a, .inr (4, fs))) (hv : fs[3]? = some v) (g : z_J Z mX3_addIfRaised R k n Q 79 ls (v :: st) h) : z_J Z mX3_addIfRaised R k n Q 76 ls (.ref a :: st) h := z_get dX3_addIfRaised_76 rfl fl_X3_21 hh hv g
def bX3_addIfRaised_79 : zB := [(79, .aload_n 0, 80, nI 0)]
theorem bX3_addIfRaised_79_ok : z_ok cX3_addIfRaised 79 bX3_addIfRaised_79 80 = true := by decide +kernel
theorem iX3_addIfRaised_79 (hr : z_run 5 bX3_addIfRaised_79 ls st = some (ls', st')) (g : z_J Z mX3_addIfRaised R k n Q 80 ls' st' h) : z_J Z mX3_addIfRaised R k n Q 79 ls st h := z_jr bX3_addIfRaised_79 bX3_addIfRaised_79_ok hr g
theorem dX3_addIfRaised_80 : decode cX3_addIfRaised 80 = .ok (.getfield 30, 3) := by decide +kernel
theorem iX3_addIfRaised_80 (hh : h r = some (a, .inr (4, fs))) (hv : fs[5]? = some v) (g : z_J Z mX3_addIfRaised R k n Q 83 ls (v :: st) h) : z_J Z mX3_addIfRaised R k n Q 80 ls (.ref a :: st) h := z_get dX3_addIfRaised_80 rfl fl_X3_30 hh hv g
def bX3_addIfRaised_83 : zB := [(83, .iload_n 3, 84, nI 0)]
theorem bX3_addIfRaised_83_ok : z_ok cX3_addIfRaised 83 bX3_addIfRaised_83 84 = true := by decide +kernel
theorem iX3_addIfRaised_83 (hr : z_run 5 bX3_addIfRaised_83 ls st = some (ls', st')) (g : z_J Z mX3_addIfRaised R k n Q 84 ls' st' h) : z_J Z mX3_addIfRaised R k n Q 83 ls st h := z_jr bX3_addIfRaised_83 bX3_addIfRaised_83_ok hr g
theorem dX3_addIfRaised_84 : decode cX3_addIfRaised 84 = .ok (.iastore, 1) := by decide +kernel
theorem iX3_addIfRaised_84 {f : Nat → Int32} (hh : h r = some (a, .inl (0, N, .inl f))) (hi : i = nI j) (hj : j < N) (hN : N < 2 ^ 31) (g : z_J Z mX3_addIfRaised R k n Q 85 ls st (z_u h r (a, .inl (0, N, .inl (upd f j x))))) : z_J Z mX3_addIfRaised R k n Q 84 ls (.int x :: .int i :: .ref a :: st) h := z_iast dX3_addIfRaised_84 rfl hh hi hj hN g
def bX3_addIfRaised_85 : zB := [(85, .aload_n 0, 86, nI 0), (86, .dup, 87, nI 0)]
theorem bX3_addIfRaised_85_ok : z_ok cX3_addIfRaised 85 bX3_addIfRaised_85 87 = true := by decide +kernel
theorem iX3_addIfRaised_85 (hr : z_run 5 bX3_addIfRaised_85 ls st = some (ls', st')) (g : z_J Z mX3_addIfRaised R k n Q 87 ls' st' h) : z_J Z mX3_addIfRaised R k n Q 85 ls st h := z_jr bX3_addIfRaised_85 bX3_addIfRaised_85_ok hr g
theorem dX3_addIfRaised_87 : decode cX3_addIfRaised 87 = .ok (.getfield 30, 3) := by decide +kernel
theorem iX3_addIfRaised_87 (hh : h r = some (a, .inr (4, fs))) (hv : fs[5]? = some v) (g : z_J Z mX3_addIfRaised R k n Q 90 ls (v :: st) h) : z_J Z mX3_addIfRaised R k n Q 87 ls (.ref a :: st) h := z_get dX3_addIfRaised_87 rfl fl_X3_30 hh hv g
def bX3_addIfRaised_90 : zB := [(90, .iconst 1, 91, nI 1), (91, .iadd, 92, nI 0)]
theorem bX3_addIfRaised_90_ok : z_ok cX3_addIfRaised 90 bX3_addIfRaised_90 92 = true := by decide +kernel
theorem iX3_addIfRaised_90 (hr : z_run 5 bX3_addIfRaised_90 ls st = some (ls', st')) (g : z_J Z mX3_addIfRaised R k n Q 92 ls' st' h) : z_J Z mX3_addIfRaised R k n Q 90 ls st h := z_jr bX3_addIfRaised_90 bX3_addIfRaised_90_ok hr g
theorem dX3_addIfRaised_92 : decode cX3_addIfRaised 92 = .ok (.putfield 30, 3) := by decide +kernel
theorem iX3_addIfRaised_92 (hh : h r = some (a, .inr (4, fs))) (hl : Nat.blt 5 fs.length = true) (g : z_J Z mX3_addIfRaised R k n Q 95 ls st (z_u h r (a, .inr (4, fs.set 5 (.int x))))) : z_J Z mX3_addIfRaised R k n Q 92 ls ((.int x) :: .ref a :: st) h := z_put dX3_addIfRaised_92 rfl fl_X3_30 fw_X3_5 rfl hh rfl rfl (by simpa [Nat.blt_eq] using hl) g
theorem dX3_addIfRaised_95 : decode cX3_addIfRaised 95 = .ok (.return_, 1) := by decide +kernel
theorem iX3_addIfRaised_95 (hk : k ≤ R.cells) (hs : n ≤ R.slots) (hq : Q (.inl none) h) : z_J Z mX3_addIfRaised R k n Q 95 ls [] h := z_vret dX3_addIfRaised_95 rfl hk hs hq
/-! X3_demandOfAll -/
def bX3_demandOfAll_0 : zB := [(0, .iconst 0, 1, nI 0), (1, .istore_n 1, 2, nI 0), (2, .iconst 0, 3, nI 0), (3, .istore_n 2, 4, nI 0)]
theorem bX3_demandOfAll_0_ok : z_ok cX3_demandOfAll 0 bX3_demandOfAll_0 4 = true := by decide +kernel
theorem iX3_demandOfAll_0 (hr : z_run 3 bX3_demandOfAll_0 ls st = some (ls', st')) (g : z_J Z mX3_demandOfAll R k n Q 4 ls' st' h) : z_J Z mX3_demandOfAll R k n Q 0 ls st h := z_jr bX3_demandOfAll_0 bX3_demandOfAll_0_ok hr g
def bX3_demandOfAll_4 : zB := [(4, .iload_n 2, 5, nI 0), (5, .aload_n 0, 6, nI 0)]
theorem bX3_demandOfAll_4_ok : z_ok cX3_demandOfAll 4 bX3_demandOfAll_4 6 = true := by decide +kernel
theorem iX3_demandOfAll_4 (hr : z_run 3 bX3_demandOfAll_4 ls st = some (ls', st')) (g : z_J Z mX3_demandOfAll R k n Q 6 ls' st' h) : z_J Z mX3_demandOfAll R k n Q 4 ls st h := z_jr bX3_demandOfAll_4 bX3_demandOfAll_4_ok hr g
theorem dX3_demandOfAll_6 : decode cX3_demandOfAll 6 = .ok (.getfield 30, 3) := by decide +kernel
theorem iX3_demandOfAll_6 (hh : h r = some (a, .inr (4, fs))) (hv : fs[5]? = some v) (g : z_J Z mX3_demandOfAll R k n Q 9 ls (v :: st) h) : z_J Z mX3_demandOfAll R k n Q 6 ls (.ref a :: st) h := z_get dX3_demandOfAll_6 rfl fl_X3_30 hh hv g
theorem dX3_demandOfAll_9 : decode cX3_demandOfAll 9 = .ok (.if_icmp .ge 18, 3) := by decide +kernel
theorem iX3_demandOfAll_9 (kt : y ≤ x → z_J Z mX3_demandOfAll R k n Q 27 ls st h) (kf : ¬ y ≤ x → z_J Z mX3_demandOfAll R k n Q 12 ls st h) : z_J Z mX3_demandOfAll R k n Q 9 ls (.int y :: .int x :: st) h := z_ic_ge dX3_demandOfAll_9 (tgt := 27) (by decide) rfl kt kf
def bX3_demandOfAll_12 : zB := [(12, .iload_n 1, 13, nI 0), (13, .aload_n 0, 14, nI 0)]
theorem bX3_demandOfAll_12_ok : z_ok cX3_demandOfAll 12 bX3_demandOfAll_12 14 = true := by decide +kernel
theorem iX3_demandOfAll_12 (hr : z_run 3 bX3_demandOfAll_12 ls st = some (ls', st')) (g : z_J Z mX3_demandOfAll R k n Q 14 ls' st' h) : z_J Z mX3_demandOfAll R k n Q 12 ls st h := z_jr bX3_demandOfAll_12 bX3_demandOfAll_12_ok hr g
theorem dX3_demandOfAll_14 : decode cX3_demandOfAll 14 = .ok (.getfield 21, 3) := by decide +kernel
theorem iX3_demandOfAll_14 (hh : h r = some (a, .inr (4, fs))) (hv : fs[3]? = some v) (g : z_J Z mX3_demandOfAll R k n Q 17 ls (v :: st) h) : z_J Z mX3_demandOfAll R k n Q 14 ls (.ref a :: st) h := z_get dX3_demandOfAll_14 rfl fl_X3_21 hh hv g
def bX3_demandOfAll_17 : zB := [(17, .iload_n 2, 18, nI 0)]
theorem bX3_demandOfAll_17_ok : z_ok cX3_demandOfAll 17 bX3_demandOfAll_17 18 = true := by decide +kernel
theorem iX3_demandOfAll_17 (hr : z_run 3 bX3_demandOfAll_17 ls st = some (ls', st')) (g : z_J Z mX3_demandOfAll R k n Q 18 ls' st' h) : z_J Z mX3_demandOfAll R k n Q 17 ls st h := z_jr bX3_demandOfAll_17 bX3_demandOfAll_17_ok hr g
theorem dX3_demandOfAll_18 : decode cX3_demandOfAll 18 = .ok (.iaload, 1) := by decide +kernel
theorem iX3_demandOfAll_18 {f : Nat → Int32} (hh : h r = some (a, .inl (0, N, .inl f))) (hi : i = nI j) (hj : j < N) (hN : N < 2 ^ 31) (g : z_J Z mX3_demandOfAll R k n Q 19 ls (.int (f j) :: st) h) : z_J Z mX3_demandOfAll R k n Q 18 ls (.int i :: .ref a :: st) h := z_iald dX3_demandOfAll_18 rfl hh hi hj hN g
def bX3_demandOfAll_19 : zB := [(19, .iadd, 20, nI 0), (20, .istore_n 1, 21, nI 0), (21, .iinc 2 1, 24, nI 1), (24, .goto (-20), 4, nI 0)]
theorem bX3_demandOfAll_19_ok : z_ok cX3_demandOfAll 19 bX3_demandOfAll_19 4 = true := by decide +kernel
theorem iX3_demandOfAll_19 (hr : z_run 3 bX3_demandOfAll_19 ls st = some (ls', st')) (g : z_J Z mX3_demandOfAll R k n Q 4 ls' st' h) : z_J Z mX3_demandOfAll R k n Q 19 ls st h := z_jr bX3_demandOfAll_19 bX3_demandOfAll_19_ok hr g
def bX3_demandOfAll_27 : zB := [(27, .iload_n 1, 28, nI 0)]
theorem bX3_demandOfAll_27_ok : z_ok cX3_demandOfAll 27 bX3_demandOfAll_27 28 = true := by decide +kernel
theorem iX3_demandOfAll_27 (hr : z_run 3 bX3_demandOfAll_27 ls st = some (ls', st')) (g : z_J Z mX3_demandOfAll R k n Q 28 ls' st' h) : z_J Z mX3_demandOfAll R k n Q 27 ls st h := z_jr bX3_demandOfAll_27 bX3_demandOfAll_27_ok hr g
theorem dX3_demandOfAll_28 : decode cX3_demandOfAll 28 = .ok (.ireturn, 1) := by decide +kernel
theorem iX3_demandOfAll_28 (hk : k ≤ R.cells) (hs : n ≤ R.slots) (hq : Q (.inl (some (.int x))) h) : z_J Z mX3_demandOfAll R k n Q 28 ls [.int x] h := z_iret (ty := .int) dX3_demandOfAll_28 rfl rfl hk hs hq
/-! X3_demandOfProduct -/
def bX3_demandOfProduct_0 : zB := [(0, .iconst 0, 1, nI 0), (1, .istore_n 2, 2, nI 0), (2, .iconst 0, 3, nI 0), (3, .istore_n 3, 4, nI 0)]
theorem bX3_demandOfProduct_0_ok : z_ok cX3_demandOfProduct 0 bX3_demandOfProduct_0 4 = true := by decide +kernel
theorem iX3_demandOfProduct_0 (hr : z_run 4 bX3_demandOfProduct_0 ls st = some (ls', st')) (g : z_J Z mX3_demandOfProduct R k n Q 4 ls' st' h) : z_J Z mX3_demandOfProduct R k n Q 0 ls st h := z_jr bX3_demandOfProduct_0 bX3_demandOfProduct_0_ok hr g
def bX3_demandOfProduct_4 : zB := [(4, .iload_n 3, 5, nI 0), (5, .aload_n 0, 6, nI 0)]
theorem bX3_demandOfProduct_4_ok : z_ok cX3_demandOfProduct 4 bX3_demandOfProduct_4 6 = true := by decide +kernel
theorem iX3_demandOfProduct_4 (hr : z_run 4 bX3_demandOfProduct_4 ls st = some (ls', st')) (g : z_J Z mX3_demandOfProduct R k n Q 6 ls' st' h) : z_J Z mX3_demandOfProduct R k n Q 4 ls st h := z_jr bX3_demandOfProduct_4 bX3_demandOfProduct_4_ok hr g
theorem dX3_demandOfProduct_6 : decode cX3_demandOfProduct 6 = .ok (.getfield 30, 3) := by decide +kernel
theorem iX3_demandOfProduct_6 (hh : h r = some (a, .inr (4, fs))) (hv : fs[5]? = some v) (g : z_J Z mX3_demandOfProduct R k n Q 9 ls (v :: st) h) : z_J Z mX3_demandOfProduct R k n Q 6 ls (.ref a :: st) h := z_get dX3_demandOfProduct_6 rfl fl_X3_30 hh hv g
theorem dX3_demandOfProduct_9 : decode cX3_demandOfProduct 9 = .ok (.if_icmp .ge 32, 3) := by decide +kernel
theorem iX3_demandOfProduct_9 (kt : y ≤ x → z_J Z mX3_demandOfProduct R k n Q 41 ls st h) (kf : ¬ y ≤ x → z_J Z mX3_demandOfProduct R k n Q 12 ls st h) : z_J Z mX3_demandOfProduct R k n Q 9 ls (.int y :: .int x :: st) h := z_ic_ge dX3_demandOfProduct_9 (tgt := 41) (by decide) rfl kt kf
def bX3_demandOfProduct_12 : zB := [(12, .iload_n 2, 13, nI 0), (13, .aload_n 0, 14, nI 0)]
theorem bX3_demandOfProduct_12_ok : z_ok cX3_demandOfProduct 12 bX3_demandOfProduct_12 14 = true := by decide +kernel
theorem iX3_demandOfProduct_12 (hr : z_run 4 bX3_demandOfProduct_12 ls st = some (ls', st')) (g : z_J Z mX3_demandOfProduct R k n Q 14 ls' st' h) : z_J Z mX3_demandOfProduct R k n Q 12 ls st h := z_jr bX3_demandOfProduct_12 bX3_demandOfProduct_12_ok hr g
theorem dX3_demandOfProduct_14 : decode cX3_demandOfProduct 14 = .ok (.getfield 15, 3) := by decide +kernel
theorem iX3_demandOfProduct_14 (hh : h r = some (a, .inr (4, fs))) (hv : fs[1]? = some v) (g : z_J Z mX3_demandOfProduct R k n Q 17 ls (v :: st) h) : z_J Z mX3_demandOfProduct R k n Q 14 ls (.ref a :: st) h := z_get dX3_demandOfProduct_14 rfl fl_X3_15 hh hv g
def bX3_demandOfProduct_17 : zB := [(17, .iload_n 3, 18, nI 0)]
theorem bX3_demandOfProduct_17_ok : z_ok cX3_demandOfProduct 17 bX3_demandOfProduct_17 18 = true := by decide +kernel
theorem iX3_demandOfProduct_17 (hr : z_run 4 bX3_demandOfProduct_17 ls st = some (ls', st')) (g : z_J Z mX3_demandOfProduct R k n Q 18 ls' st' h) : z_J Z mX3_demandOfProduct R k n Q 17 ls st h := z_jr bX3_demandOfProduct_17 bX3_demandOfProduct_17_ok hr g
theorem dX3_demandOfProduct_18 : decode cX3_demandOfProduct 18 = .ok (.iaload, 1) := by decide +kernel
theorem iX3_demandOfProduct_18 {f : Nat → Int32} (hh : h r = some (a, .inl (0, N, .inl f))) (hi : i = nI j) (hj : j < N) (hN : N < 2 ^ 31) (g : z_J Z mX3_demandOfProduct R k n Q 19 ls (.int (f j) :: st) h) : z_J Z mX3_demandOfProduct R k n Q 18 ls (.int i :: .ref a :: st) h := z_iald dX3_demandOfProduct_18 rfl hh hi hj hN g
def bX3_demandOfProduct_19 : zB := [(19, .iload_n 1, 20, nI 0)]
theorem bX3_demandOfProduct_19_ok : z_ok cX3_demandOfProduct 19 bX3_demandOfProduct_19 20 = true := by decide +kernel
theorem iX3_demandOfProduct_19 (hr : z_run 4 bX3_demandOfProduct_19 ls st = some (ls', st')) (g : z_J Z mX3_demandOfProduct R k n Q 20 ls' st' h) : z_J Z mX3_demandOfProduct R k n Q 19 ls st h := z_jr bX3_demandOfProduct_19 bX3_demandOfProduct_19_ok hr g
theorem dX3_demandOfProduct_20 : decode cX3_demandOfProduct 20 = .ok (.if_icmp .ne 12, 3) := by decide +kernel
theorem iX3_demandOfProduct_20 (kt : ¬ x = y → z_J Z mX3_demandOfProduct R k n Q 32 ls st h) (kf : x = y → z_J Z mX3_demandOfProduct R k n Q 23 ls st h) : z_J Z mX3_demandOfProduct R k n Q 20 ls (.int y :: .int x :: st) h := z_ic_ne dX3_demandOfProduct_20 (tgt := 32) (by decide) rfl kt kf
def bX3_demandOfProduct_23 : zB := [(23, .aload_n 0, 24, nI 0)]
theorem bX3_demandOfProduct_23_ok : z_ok cX3_demandOfProduct 23 bX3_demandOfProduct_23 24 = true := by decide +kernel
theorem iX3_demandOfProduct_23 (hr : z_run 4 bX3_demandOfProduct_23 ls st = some (ls', st')) (g : z_J Z mX3_demandOfProduct R k n Q 24 ls' st' h) : z_J Z mX3_demandOfProduct R k n Q 23 ls st h := z_jr bX3_demandOfProduct_23 bX3_demandOfProduct_23_ok hr g
theorem dX3_demandOfProduct_24 : decode cX3_demandOfProduct 24 = .ok (.getfield 21, 3) := by decide +kernel
theorem iX3_demandOfProduct_24 (hh : h r = some (a, .inr (4, fs))) (hv : fs[3]? = some v) (g : z_J Z mX3_demandOfProduct R k n Q 27 ls (v :: st) h) : z_J Z mX3_demandOfProduct R k n Q 24 ls (.ref a :: st) h := z_get dX3_demandOfProduct_24 rfl fl_X3_21 hh hv g
def bX3_demandOfProduct_27 : zB := [(27, .iload_n 3, 28, nI 0)]
theorem bX3_demandOfProduct_27_ok : z_ok cX3_demandOfProduct 27 bX3_demandOfProduct_27 28 = true := by decide +kernel
theorem iX3_demandOfProduct_27 (hr : z_run 4 bX3_demandOfProduct_27 ls st = some (ls', st')) (g : z_J Z mX3_demandOfProduct R k n Q 28 ls' st' h) : z_J Z mX3_demandOfProduct R k n Q 27 ls st h := z_jr bX3_demandOfProduct_27 bX3_demandOfProduct_27_ok hr g
theorem dX3_demandOfProduct_28 : decode cX3_demandOfProduct 28 = .ok (.iaload, 1) := by decide +kernel
theorem iX3_demandOfProduct_28 {f : Nat → Int32} (hh : h r = some (a, .inl (0, N, .inl f))) (hi : i = nI j) (hj : j < N) (hN : N < 2 ^ 31) (g : z_J Z mX3_demandOfProduct R k n Q 29 ls (.int (f j) :: st) h) : z_J Z mX3_demandOfProduct R k n Q 28 ls (.int i :: .ref a :: st) h := z_iald dX3_demandOfProduct_28 rfl hh hi hj hN g
def bX3_demandOfProduct_29 : zB := [(29, .goto 4, 33, nI 0)]
theorem bX3_demandOfProduct_29_ok : z_ok cX3_demandOfProduct 29 bX3_demandOfProduct_29 33 = true := by decide +kernel
theorem iX3_demandOfProduct_29 (hr : z_run 4 bX3_demandOfProduct_29 ls st = some (ls', st')) (g : z_J Z mX3_demandOfProduct R k n Q 33 ls' st' h) : z_J Z mX3_demandOfProduct R k n Q 29 ls st h := z_jr bX3_demandOfProduct_29 bX3_demandOfProduct_29_ok hr g
def bX3_demandOfProduct_32 : zB := [(32, .iconst 0, 33, nI 0)]
theorem bX3_demandOfProduct_32_ok : z_ok cX3_demandOfProduct 32 bX3_demandOfProduct_32 33 = true := by decide +kernel
theorem iX3_demandOfProduct_32 (hr : z_run 4 bX3_demandOfProduct_32 ls st = some (ls', st')) (g : z_J Z mX3_demandOfProduct R k n Q 33 ls' st' h) : z_J Z mX3_demandOfProduct R k n Q 32 ls st h := z_jr bX3_demandOfProduct_32 bX3_demandOfProduct_32_ok hr g
def bX3_demandOfProduct_33 : zB := [(33, .iadd, 34, nI 0), (34, .istore_n 2, 35, nI 0), (35, .iinc 3 1, 38, nI 1), (38, .goto (-34), 4, nI 0)]
theorem bX3_demandOfProduct_33_ok : z_ok cX3_demandOfProduct 33 bX3_demandOfProduct_33 4 = true := by decide +kernel
theorem iX3_demandOfProduct_33 (hr : z_run 4 bX3_demandOfProduct_33 ls st = some (ls', st')) (g : z_J Z mX3_demandOfProduct R k n Q 4 ls' st' h) : z_J Z mX3_demandOfProduct R k n Q 33 ls st h := z_jr bX3_demandOfProduct_33 bX3_demandOfProduct_33_ok hr g
def bX3_demandOfProduct_41 : zB := [(41, .iload_n 2, 42, nI 0)]
theorem bX3_demandOfProduct_41_ok : z_ok cX3_demandOfProduct 41 bX3_demandOfProduct_41 42 = true := by decide +kernel
theorem iX3_demandOfProduct_41 (hr : z_run 4 bX3_demandOfProduct_41 ls st = some (ls', st')) (g : z_J Z mX3_demandOfProduct R k n Q 42 ls' st' h) : z_J Z mX3_demandOfProduct R k n Q 41 ls st h := z_jr bX3_demandOfProduct_41 bX3_demandOfProduct_41_ok hr g
theorem dX3_demandOfProduct_42 : decode cX3_demandOfProduct 42 = .ok (.ireturn, 1) := by decide +kernel
theorem iX3_demandOfProduct_42 (hk : k ≤ R.cells) (hs : n ≤ R.slots) (hq : Q (.inl (some (.int x))) h) : z_J Z mX3_demandOfProduct R k n Q 42 ls [.int x] h := z_iret (ty := .int) dX3_demandOfProduct_42 rfl rfl hk hs hq
/-! X3_demandOfSet -/
def bX3_demandOfSet_0 : zB := [(0, .iconst 0, 1, nI 0), (1, .istore_n 2, 2, nI 0), (2, .iconst 0, 3, nI 0), (3, .istore_n 3, 4, nI 0)]
theorem bX3_demandOfSet_0_ok : z_ok cX3_demandOfSet 0 bX3_demandOfSet_0 4 = true := by decide +kernel
theorem iX3_demandOfSet_0 (hr : z_run 4 bX3_demandOfSet_0 ls st = some (ls', st')) (g : z_J Z mX3_demandOfSet R k n Q 4 ls' st' h) : z_J Z mX3_demandOfSet R k n Q 0 ls st h := z_jr bX3_demandOfSet_0 bX3_demandOfSet_0_ok hr g
def bX3_demandOfSet_4 : zB := [(4, .iload_n 3, 5, nI 0), (5, .aload_n 0, 6, nI 0)]
theorem bX3_demandOfSet_4_ok : z_ok cX3_demandOfSet 4 bX3_demandOfSet_4 6 = true := by decide +kernel
theorem iX3_demandOfSet_4 (hr : z_run 4 bX3_demandOfSet_4 ls st = some (ls', st')) (g : z_J Z mX3_demandOfSet R k n Q 6 ls' st' h) : z_J Z mX3_demandOfSet R k n Q 4 ls st h := z_jr bX3_demandOfSet_4 bX3_demandOfSet_4_ok hr g
theorem dX3_demandOfSet_6 : decode cX3_demandOfSet 6 = .ok (.getfield 30, 3) := by decide +kernel
theorem iX3_demandOfSet_6 (hh : h r = some (a, .inr (4, fs))) (hv : fs[5]? = some v) (g : z_J Z mX3_demandOfSet R k n Q 9 ls (v :: st) h) : z_J Z mX3_demandOfSet R k n Q 6 ls (.ref a :: st) h := z_get dX3_demandOfSet_6 rfl fl_X3_30 hh hv g
theorem dX3_demandOfSet_9 : decode cX3_demandOfSet 9 = .ok (.if_icmp .ge 30, 3) := by decide +kernel
theorem iX3_demandOfSet_9 (kt : y ≤ x → z_J Z mX3_demandOfSet R k n Q 39 ls st h) (kf : ¬ y ≤ x → z_J Z mX3_demandOfSet R k n Q 12 ls st h) : z_J Z mX3_demandOfSet R k n Q 9 ls (.int y :: .int x :: st) h := z_ic_ge dX3_demandOfSet_9 (tgt := 39) (by decide) rfl kt kf
def bX3_demandOfSet_12 : zB := [(12, .iload_n 2, 13, nI 0), (13, .iload_n 1, 14, nI 0), (14, .iload_n 3, 15, nI 0), (15, .ishr, 16, nI 0), (16, .iconst 1, 17, nI 1), (17, .iand, 18, nI 0)]
theorem bX3_demandOfSet_12_ok : z_ok cX3_demandOfSet 12 bX3_demandOfSet_12 18 = true := by decide +kernel
theorem iX3_demandOfSet_12 (hr : z_run 4 bX3_demandOfSet_12 ls st = some (ls', st')) (g : z_J Z mX3_demandOfSet R k n Q 18 ls' st' h) : z_J Z mX3_demandOfSet R k n Q 12 ls st h := z_jr bX3_demandOfSet_12 bX3_demandOfSet_12_ok hr g
theorem dX3_demandOfSet_18 : decode cX3_demandOfSet 18 = .ok (.ifCond .eq 12, 3) := by decide +kernel
theorem iX3_demandOfSet_18 (kt : x = 0 → z_J Z mX3_demandOfSet R k n Q 30 ls st h) (kf : ¬ x = 0 → z_J Z mX3_demandOfSet R k n Q 21 ls st h) : z_J Z mX3_demandOfSet R k n Q 18 ls (.int x :: st) h := z_if_eq dX3_demandOfSet_18 (tgt := 30) (by decide) rfl kt kf
def bX3_demandOfSet_21 : zB := [(21, .aload_n 0, 22, nI 0)]
theorem bX3_demandOfSet_21_ok : z_ok cX3_demandOfSet 21 bX3_demandOfSet_21 22 = true := by decide +kernel
theorem iX3_demandOfSet_21 (hr : z_run 4 bX3_demandOfSet_21 ls st = some (ls', st')) (g : z_J Z mX3_demandOfSet R k n Q 22 ls' st' h) : z_J Z mX3_demandOfSet R k n Q 21 ls st h := z_jr bX3_demandOfSet_21 bX3_demandOfSet_21_ok hr g
theorem dX3_demandOfSet_22 : decode cX3_demandOfSet 22 = .ok (.getfield 21, 3) := by decide +kernel
theorem iX3_demandOfSet_22 (hh : h r = some (a, .inr (4, fs))) (hv : fs[3]? = some v) (g : z_J Z mX3_demandOfSet R k n Q 25 ls (v :: st) h) : z_J Z mX3_demandOfSet R k n Q 22 ls (.ref a :: st) h := z_get dX3_demandOfSet_22 rfl fl_X3_21 hh hv g
def bX3_demandOfSet_25 : zB := [(25, .iload_n 3, 26, nI 0)]
theorem bX3_demandOfSet_25_ok : z_ok cX3_demandOfSet 25 bX3_demandOfSet_25 26 = true := by decide +kernel
theorem iX3_demandOfSet_25 (hr : z_run 4 bX3_demandOfSet_25 ls st = some (ls', st')) (g : z_J Z mX3_demandOfSet R k n Q 26 ls' st' h) : z_J Z mX3_demandOfSet R k n Q 25 ls st h := z_jr bX3_demandOfSet_25 bX3_demandOfSet_25_ok hr g
theorem dX3_demandOfSet_26 : decode cX3_demandOfSet 26 = .ok (.iaload, 1) := by decide +kernel
theorem iX3_demandOfSet_26 {f : Nat → Int32} (hh : h r = some (a, .inl (0, N, .inl f))) (hi : i = nI j) (hj : j < N) (hN : N < 2 ^ 31) (g : z_J Z mX3_demandOfSet R k n Q 27 ls (.int (f j) :: st) h) : z_J Z mX3_demandOfSet R k n Q 26 ls (.int i :: .ref a :: st) h := z_iald dX3_demandOfSet_26 rfl hh hi hj hN g
def bX3_demandOfSet_27 : zB := [(27, .goto 4, 31, nI 0)]
theorem bX3_demandOfSet_27_ok : z_ok cX3_demandOfSet 27 bX3_demandOfSet_27 31 = true := by decide +kernel
theorem iX3_demandOfSet_27 (hr : z_run 4 bX3_demandOfSet_27 ls st = some (ls', st')) (g : z_J Z mX3_demandOfSet R k n Q 31 ls' st' h) : z_J Z mX3_demandOfSet R k n Q 27 ls st h := z_jr bX3_demandOfSet_27 bX3_demandOfSet_27_ok hr g
def bX3_demandOfSet_30 : zB := [(30, .iconst 0, 31, nI 0)]
theorem bX3_demandOfSet_30_ok : z_ok cX3_demandOfSet 30 bX3_demandOfSet_30 31 = true := by decide +kernel
theorem iX3_demandOfSet_30 (hr : z_run 4 bX3_demandOfSet_30 ls st = some (ls', st')) (g : z_J Z mX3_demandOfSet R k n Q 31 ls' st' h) : z_J Z mX3_demandOfSet R k n Q 30 ls st h := z_jr bX3_demandOfSet_30 bX3_demandOfSet_30_ok hr g
def bX3_demandOfSet_31 : zB := [(31, .iadd, 32, nI 0), (32, .istore_n 2, 33, nI 0), (33, .iinc 3 1, 36, nI 1), (36, .goto (-32), 4, nI 0)]
theorem bX3_demandOfSet_31_ok : z_ok cX3_demandOfSet 31 bX3_demandOfSet_31 4 = true := by decide +kernel
theorem iX3_demandOfSet_31 (hr : z_run 4 bX3_demandOfSet_31 ls st = some (ls', st')) (g : z_J Z mX3_demandOfSet R k n Q 4 ls' st' h) : z_J Z mX3_demandOfSet R k n Q 31 ls st h := z_jr bX3_demandOfSet_31 bX3_demandOfSet_31_ok hr g
def bX3_demandOfSet_39 : zB := [(39, .iload_n 2, 40, nI 0)]
theorem bX3_demandOfSet_39_ok : z_ok cX3_demandOfSet 39 bX3_demandOfSet_39 40 = true := by decide +kernel
theorem iX3_demandOfSet_39 (hr : z_run 4 bX3_demandOfSet_39 ls st = some (ls', st')) (g : z_J Z mX3_demandOfSet R k n Q 40 ls' st' h) : z_J Z mX3_demandOfSet R k n Q 39 ls st h := z_jr bX3_demandOfSet_39 bX3_demandOfSet_39_ok hr g
theorem dX3_demandOfSet_40 : decode cX3_demandOfSet 40 = .ok (.ireturn, 1) := by decide +kernel
theorem iX3_demandOfSet_40 (hk : k ≤ R.cells) (hs : n ≤ R.slots) (hq : Q (.inl (some (.int x))) h) : z_J Z mX3_demandOfSet R k n Q 40 ls [.int x] h := z_iret (ty := .int) dX3_demandOfSet_40 rfl rfl hk hs hq
/-! X3_giversOfSet -/
def bX3_giversOfSet_0 : zB := [(0, .iconst 0, 1, nI 0), (1, .istore_n 2, 2, nI 0), (2, .iconst 0, 3, nI 0), (3, .istore_n 3, 4, nI 0)]
theorem bX3_giversOfSet_0_ok : z_ok cX3_giversOfSet 0 bX3_giversOfSet_0 4 = true := by decide +kernel
theorem iX3_giversOfSet_0 (hr : z_run 4 bX3_giversOfSet_0 ls st = some (ls', st')) (g : z_J Z mX3_giversOfSet R k n Q 4 ls' st' h) : z_J Z mX3_giversOfSet R k n Q 0 ls st h := z_jr bX3_giversOfSet_0 bX3_giversOfSet_0_ok hr g
def bX3_giversOfSet_4 : zB := [(4, .iload_n 3, 5, nI 0), (5, .aload_n 0, 6, nI 0)]
theorem bX3_giversOfSet_4_ok : z_ok cX3_giversOfSet 4 bX3_giversOfSet_4 6 = true := by decide +kernel
theorem iX3_giversOfSet_4 (hr : z_run 4 bX3_giversOfSet_4 ls st = some (ls', st')) (g : z_J Z mX3_giversOfSet R k n Q 6 ls' st' h) : z_J Z mX3_giversOfSet R k n Q 4 ls st h := z_jr bX3_giversOfSet_4 bX3_giversOfSet_4_ok hr g
theorem dX3_giversOfSet_6 : decode cX3_giversOfSet 6 = .ok (.getfield 30, 3) := by decide +kernel
theorem iX3_giversOfSet_6 (hh : h r = some (a, .inr (4, fs))) (hv : fs[5]? = some v) (g : z_J Z mX3_giversOfSet R k n Q 9 ls (v :: st) h) : z_J Z mX3_giversOfSet R k n Q 6 ls (.ref a :: st) h := z_get dX3_giversOfSet_6 rfl fl_X3_30 hh hv g
theorem dX3_giversOfSet_9 : decode cX3_giversOfSet 9 = .ok (.if_icmp .ge 30, 3) := by decide +kernel
theorem iX3_giversOfSet_9 (kt : y ≤ x → z_J Z mX3_giversOfSet R k n Q 39 ls st h) (kf : ¬ y ≤ x → z_J Z mX3_giversOfSet R k n Q 12 ls st h) : z_J Z mX3_giversOfSet R k n Q 9 ls (.int y :: .int x :: st) h := z_ic_ge dX3_giversOfSet_9 (tgt := 39) (by decide) rfl kt kf
def bX3_giversOfSet_12 : zB := [(12, .iload_n 2, 13, nI 0), (13, .iload_n 1, 14, nI 0), (14, .iload_n 3, 15, nI 0), (15, .ishr, 16, nI 0), (16, .iconst 1, 17, nI 1), (17, .iand, 18, nI 0)]
theorem bX3_giversOfSet_12_ok : z_ok cX3_giversOfSet 12 bX3_giversOfSet_12 18 = true := by decide +kernel
theorem iX3_giversOfSet_12 (hr : z_run 4 bX3_giversOfSet_12 ls st = some (ls', st')) (g : z_J Z mX3_giversOfSet R k n Q 18 ls' st' h) : z_J Z mX3_giversOfSet R k n Q 12 ls st h := z_jr bX3_giversOfSet_12 bX3_giversOfSet_12_ok hr g
theorem dX3_giversOfSet_18 : decode cX3_giversOfSet 18 = .ok (.ifCond .eq 12, 3) := by decide +kernel
theorem iX3_giversOfSet_18 (kt : x = 0 → z_J Z mX3_giversOfSet R k n Q 30 ls st h) (kf : ¬ x = 0 → z_J Z mX3_giversOfSet R k n Q 21 ls st h) : z_J Z mX3_giversOfSet R k n Q 18 ls (.int x :: st) h := z_if_eq dX3_giversOfSet_18 (tgt := 30) (by decide) rfl kt kf
def bX3_giversOfSet_21 : zB := [(21, .aload_n 0, 22, nI 0)]
theorem bX3_giversOfSet_21_ok : z_ok cX3_giversOfSet 21 bX3_giversOfSet_21 22 = true := by decide +kernel
theorem iX3_giversOfSet_21 (hr : z_run 4 bX3_giversOfSet_21 ls st = some (ls', st')) (g : z_J Z mX3_giversOfSet R k n Q 22 ls' st' h) : z_J Z mX3_giversOfSet R k n Q 21 ls st h := z_jr bX3_giversOfSet_21 bX3_giversOfSet_21_ok hr g
theorem dX3_giversOfSet_22 : decode cX3_giversOfSet 22 = .ok (.getfield 24, 3) := by decide +kernel
theorem iX3_giversOfSet_22 (hh : h r = some (a, .inr (4, fs))) (hv : fs[4]? = some v) (g : z_J Z mX3_giversOfSet R k n Q 25 ls (v :: st) h) : z_J Z mX3_giversOfSet R k n Q 22 ls (.ref a :: st) h := z_get dX3_giversOfSet_22 rfl fl_X3_24 hh hv g
def bX3_giversOfSet_25 : zB := [(25, .iload_n 3, 26, nI 0)]
theorem bX3_giversOfSet_25_ok : z_ok cX3_giversOfSet 25 bX3_giversOfSet_25 26 = true := by decide +kernel
theorem iX3_giversOfSet_25 (hr : z_run 4 bX3_giversOfSet_25 ls st = some (ls', st')) (g : z_J Z mX3_giversOfSet R k n Q 26 ls' st' h) : z_J Z mX3_giversOfSet R k n Q 25 ls st h := z_jr bX3_giversOfSet_25 bX3_giversOfSet_25_ok hr g
theorem dX3_giversOfSet_26 : decode cX3_giversOfSet 26 = .ok (.iaload, 1) := by decide +kernel
theorem iX3_giversOfSet_26 {f : Nat → Int32} (hh : h r = some (a, .inl (0, N, .inl f))) (hi : i = nI j) (hj : j < N) (hN : N < 2 ^ 31) (g : z_J Z mX3_giversOfSet R k n Q 27 ls (.int (f j) :: st) h) : z_J Z mX3_giversOfSet R k n Q 26 ls (.int i :: .ref a :: st) h := z_iald dX3_giversOfSet_26 rfl hh hi hj hN g
def bX3_giversOfSet_27 : zB := [(27, .goto 4, 31, nI 0)]
theorem bX3_giversOfSet_27_ok : z_ok cX3_giversOfSet 27 bX3_giversOfSet_27 31 = true := by decide +kernel
theorem iX3_giversOfSet_27 (hr : z_run 4 bX3_giversOfSet_27 ls st = some (ls', st')) (g : z_J Z mX3_giversOfSet R k n Q 31 ls' st' h) : z_J Z mX3_giversOfSet R k n Q 27 ls st h := z_jr bX3_giversOfSet_27 bX3_giversOfSet_27_ok hr g
def bX3_giversOfSet_30 : zB := [(30, .iconst 0, 31, nI 0)]
theorem bX3_giversOfSet_30_ok : z_ok cX3_giversOfSet 30 bX3_giversOfSet_30 31 = true := by decide +kernel
theorem iX3_giversOfSet_30 (hr : z_run 4 bX3_giversOfSet_30 ls st = some (ls', st')) (g : z_J Z mX3_giversOfSet R k n Q 31 ls' st' h) : z_J Z mX3_giversOfSet R k n Q 30 ls st h := z_jr bX3_giversOfSet_30 bX3_giversOfSet_30_ok hr g
def bX3_giversOfSet_31 : zB := [(31, .ior, 32, nI 0), (32, .istore_n 2, 33, nI 0), (33, .iinc 3 1, 36, nI 1), (36, .goto (-32), 4, nI 0)]
theorem bX3_giversOfSet_31_ok : z_ok cX3_giversOfSet 31 bX3_giversOfSet_31 4 = true := by decide +kernel
theorem iX3_giversOfSet_31 (hr : z_run 4 bX3_giversOfSet_31 ls st = some (ls', st')) (g : z_J Z mX3_giversOfSet R k n Q 4 ls' st' h) : z_J Z mX3_giversOfSet R k n Q 31 ls st h := z_jr bX3_giversOfSet_31 bX3_giversOfSet_31_ok hr g
def bX3_giversOfSet_39 : zB := [(39, .iload_n 2, 40, nI 0)]
theorem bX3_giversOfSet_39_ok : z_ok cX3_giversOfSet 39 bX3_giversOfSet_39 40 = true := by decide +kernel
theorem iX3_giversOfSet_39 (hr : z_run 4 bX3_giversOfSet_39 ls st = some (ls', st')) (g : z_J Z mX3_giversOfSet R k n Q 40 ls' st' h) : z_J Z mX3_giversOfSet R k n Q 39 ls st h := z_jr bX3_giversOfSet_39 bX3_giversOfSet_39_ok hr g
theorem dX3_giversOfSet_40 : decode cX3_giversOfSet 40 = .ok (.ireturn, 1) := by decide +kernel
theorem iX3_giversOfSet_40 (hk : k ≤ R.cells) (hs : n ≤ R.slots) (hq : Q (.inl (some (.int x))) h) : z_J Z mX3_giversOfSet R k n Q 40 ls [.int x] h := z_iret (ty := .int) dX3_giversOfSet_40 rfl rfl hk hs hq
/-! X4_init -/
def bX4_init_0 : zB := [(0, .aload_n 0, 1, nI 0)]
theorem bX4_init_0_ok : z_ok cX4_init 0 bX4_init_0 1 = true := by decide +kernel
theorem iX4_init_0 (hr : z_run 6 bX4_init_0 ls st = some (ls', st')) (g : z_J Z mX4_init R k n Q 1 ls' st' h) : z_J Z mX4_init R k n Q 0 ls st h := z_jr bX4_init_0 bX4_init_0_ok hr g
theorem dX4_init_1 : decode cX4_init 1 = .ok (.invokespecial 1, 3) := by decide +kernel
theorem iX4_init_1 (hst : (st.map fun v => v.category).sum + 12 ≤ R.locals) (hf : 1 ≤ R.frames) (g : z_J Z mX4_init R k n Q 4 ls st h) : z_J Z mX4_init R k n Q 1 ls (.ref a :: st) h := z_objI dX4_init_1 rfl gw291 gw60 gw_objInit hst hf g
def bX4_init_4 : zB := [(4, .aload_n 0, 5, nI 0), (5, .iload_n 1, 6, nI 0)]
theorem bX4_init_4_ok : z_ok cX4_init 4 bX4_init_4 6 = true := by decide +kernel
theorem iX4_init_4 (hr : z_run 6 bX4_init_4 ls st = some (ls', st')) (g : z_J Z mX4_init R k n Q 6 ls' st' h) : z_J Z mX4_init R k n Q 4 ls st h := z_jr bX4_init_4 bX4_init_4_ok hr g
theorem dX4_init_6 : decode cX4_init 6 = .ok (.putfield 7, 3) := by decide +kernel
theorem iX4_init_6 (hh : h r = some (a, .inr (5, fs))) (hl : Nat.blt 0 fs.length = true) (g : z_J Z mX4_init R k n Q 9 ls st (z_u h r (a, .inr (5, fs.set 0 (.int x))))) : z_J Z mX4_init R k n Q 6 ls ((.int x) :: .ref a :: st) h := z_putF dX4_init_6 rfl fl_X4_7 fw_X4_0 rfl rfl rfl hh rfl rfl (by simpa [Nat.blt_eq] using hl) g
def bX4_init_9 : zB := [(9, .aload_n 0, 10, nI 0), (10, .iload_n 2, 11, nI 0)]
theorem bX4_init_9_ok : z_ok cX4_init 9 bX4_init_9 11 = true := by decide +kernel
theorem iX4_init_9 (hr : z_run 6 bX4_init_9 ls st = some (ls', st')) (g : z_J Z mX4_init R k n Q 11 ls' st' h) : z_J Z mX4_init R k n Q 9 ls st h := z_jr bX4_init_9 bX4_init_9_ok hr g
theorem dX4_init_11 : decode cX4_init 11 = .ok (.putfield 13, 3) := by decide +kernel
theorem iX4_init_11 (hh : h r = some (a, .inr (5, fs))) (hl : Nat.blt 3 fs.length = true) (g : z_J Z mX4_init R k n Q 14 ls st (z_u h r (a, .inr (5, fs.set 3 (.int x))))) : z_J Z mX4_init R k n Q 11 ls ((.int x) :: .ref a :: st) h := z_put dX4_init_11 rfl fl_X4_13 fw_X4_3 rfl hh rfl rfl (by simpa [Nat.blt_eq] using hl) g
def bX4_init_14 : zB := [(14, .aload_n 0, 15, nI 0), (15, .iload_n 3, 16, nI 0)]
theorem bX4_init_14_ok : z_ok cX4_init 14 bX4_init_14 16 = true := by decide +kernel
theorem iX4_init_14 (hr : z_run 6 bX4_init_14 ls st = some (ls', st')) (g : z_J Z mX4_init R k n Q 16 ls' st' h) : z_J Z mX4_init R k n Q 14 ls st h := z_jr bX4_init_14 bX4_init_14_ok hr g
theorem dX4_init_16 : decode cX4_init 16 = .ok (.putfield 16, 3) := by decide +kernel
theorem iX4_init_16 (hh : h r = some (a, .inr (5, fs))) (hl : Nat.blt 4 fs.length = true) (g : z_J Z mX4_init R k n Q 19 ls st (z_u h r (a, .inr (5, fs.set 4 (.int x))))) : z_J Z mX4_init R k n Q 16 ls ((.int x) :: .ref a :: st) h := z_put dX4_init_16 rfl fl_X4_16 fw_X4_4 rfl hh rfl rfl (by simpa [Nat.blt_eq] using hl) g
def bX4_init_19 : zB := [(19, .aload_n 0, 20, nI 0), (20, .iload 4, 22, nI 0)]
theorem bX4_init_19_ok : z_ok cX4_init 19 bX4_init_19 22 = true := by decide +kernel
theorem iX4_init_19 (hr : z_run 6 bX4_init_19 ls st = some (ls', st')) (g : z_J Z mX4_init R k n Q 22 ls' st' h) : z_J Z mX4_init R k n Q 19 ls st h := z_jr bX4_init_19 bX4_init_19_ok hr g
theorem dX4_init_22 : decode cX4_init 22 = .ok (.putfield 19, 3) := by decide +kernel
theorem iX4_init_22 (hh : h r = some (a, .inr (5, fs))) (hl : Nat.blt 1 fs.length = true) (g : z_J Z mX4_init R k n Q 25 ls st (z_u h r (a, .inr (5, fs.set 1 (.int x))))) : z_J Z mX4_init R k n Q 22 ls ((.int x) :: .ref a :: st) h := z_putF dX4_init_22 rfl fl_X4_19 fw_X4_1 rfl rfl rfl hh rfl rfl (by simpa [Nat.blt_eq] using hl) g
def bX4_init_25 : zB := [(25, .aload_n 0, 26, nI 0), (26, .iload 5, 28, nI 0)]
theorem bX4_init_25_ok : z_ok cX4_init 25 bX4_init_25 28 = true := by decide +kernel
theorem iX4_init_25 (hr : z_run 6 bX4_init_25 ls st = some (ls', st')) (g : z_J Z mX4_init R k n Q 28 ls' st' h) : z_J Z mX4_init R k n Q 25 ls st h := z_jr bX4_init_25 bX4_init_25_ok hr g
theorem dX4_init_28 : decode cX4_init 28 = .ok (.putfield 22, 3) := by decide +kernel
theorem iX4_init_28 (hh : h r = some (a, .inr (5, fs))) (hl : Nat.blt 2 fs.length = true) (g : z_J Z mX4_init R k n Q 31 ls st (z_u h r (a, .inr (5, fs.set 2 (.int x))))) : z_J Z mX4_init R k n Q 28 ls ((.int x) :: .ref a :: st) h := z_putF dX4_init_28 rfl fl_X4_22 fw_X4_2 rfl rfl rfl hh rfl rfl (by simpa [Nat.blt_eq] using hl) g
theorem dX4_init_31 : decode cX4_init 31 = .ok (.return_, 1) := by decide +kernel
theorem iX4_init_31 (hk : k ≤ R.cells) (hs : n ≤ R.slots) (hq : Q (.inl none) h) : z_J Z mX4_init R k n Q 31 ls [] h := z_vret dX4_init_31 rfl hk hs hq
/-! X4_canGive -/
def bX4_canGive_0 : zB := [(0, .aload_n 0, 1, nI 0)]
theorem bX4_canGive_0_ok : z_ok cX4_canGive 0 bX4_canGive_0 1 = true := by decide +kernel
theorem iX4_canGive_0 (hr : z_run 4 bX4_canGive_0 ls st = some (ls', st')) (g : z_J Z mX4_canGive R k n Q 1 ls' st' h) : z_J Z mX4_canGive R k n Q 0 ls st h := z_jr bX4_canGive_0 bX4_canGive_0_ok hr g
theorem dX4_canGive_1 : decode cX4_canGive 1 = .ok (.getfield 7, 3) := by decide +kernel
theorem iX4_canGive_1 (hh : h r = some (a, .inr (5, fs))) (hv : fs[0]? = some v) (g : z_J Z mX4_canGive R k n Q 4 ls (v :: st) h) : z_J Z mX4_canGive R k n Q 1 ls (.ref a :: st) h := z_get dX4_canGive_1 rfl fl_X4_7 hh hv g
def bX4_canGive_4 : zB := [(4, .iload_n 1, 5, nI 0), (5, .ishr, 6, nI 0), (6, .iconst 1, 7, nI 1), (7, .iand, 8, nI 0)]
theorem bX4_canGive_4_ok : z_ok cX4_canGive 4 bX4_canGive_4 8 = true := by decide +kernel
theorem iX4_canGive_4 (hr : z_run 4 bX4_canGive_4 ls st = some (ls', st')) (g : z_J Z mX4_canGive R k n Q 8 ls' st' h) : z_J Z mX4_canGive R k n Q 4 ls st h := z_jr bX4_canGive_4 bX4_canGive_4_ok hr g
theorem dX4_canGive_8 : decode cX4_canGive 8 = .ok (.ifCond .eq 31, 3) := by decide +kernel
theorem iX4_canGive_8 (kt : x = 0 → z_J Z mX4_canGive R k n Q 39 ls st h) (kf : ¬ x = 0 → z_J Z mX4_canGive R k n Q 11 ls st h) : z_J Z mX4_canGive R k n Q 8 ls (.int x :: st) h := z_if_eq dX4_canGive_8 (tgt := 39) (by decide) rfl kt kf
def bX4_canGive_11 : zB := [(11, .iload_n 2, 12, nI 0), (12, .aload_n 0, 13, nI 0)]
theorem bX4_canGive_11_ok : z_ok cX4_canGive 11 bX4_canGive_11 13 = true := by decide +kernel
theorem iX4_canGive_11 (hr : z_run 4 bX4_canGive_11 ls st = some (ls', st')) (g : z_J Z mX4_canGive R k n Q 13 ls' st' h) : z_J Z mX4_canGive R k n Q 11 ls st h := z_jr bX4_canGive_11 bX4_canGive_11_ok hr g
theorem dX4_canGive_13 : decode cX4_canGive 13 = .ok (.getfield 13, 3) := by decide +kernel
theorem iX4_canGive_13 (hh : h r = some (a, .inr (5, fs))) (hv : fs[3]? = some v) (g : z_J Z mX4_canGive R k n Q 16 ls (v :: st) h) : z_J Z mX4_canGive R k n Q 13 ls (.ref a :: st) h := z_get dX4_canGive_13 rfl fl_X4_13 hh hv g
theorem dX4_canGive_16 : decode cX4_canGive 16 = .ok (.if_icmp .gt 23, 3) := by decide +kernel
theorem iX4_canGive_16 (kt : y < x → z_J Z mX4_canGive R k n Q 39 ls st h) (kf : ¬ y < x → z_J Z mX4_canGive R k n Q 19 ls st h) : z_J Z mX4_canGive R k n Q 16 ls (.int y :: .int x :: st) h := z_ic_gt dX4_canGive_16 (tgt := 39) (by decide) rfl kt kf
def bX4_canGive_19 : zB := [(19, .iload_n 3, 20, nI 0), (20, .aload_n 0, 21, nI 0)]
theorem bX4_canGive_19_ok : z_ok cX4_canGive 19 bX4_canGive_19 21 = true := by decide +kernel
theorem iX4_canGive_19 (hr : z_run 4 bX4_canGive_19 ls st = some (ls', st')) (g : z_J Z mX4_canGive R k n Q 21 ls' st' h) : z_J Z mX4_canGive R k n Q 19 ls st h := z_jr bX4_canGive_19 bX4_canGive_19_ok hr g
theorem dX4_canGive_21 : decode cX4_canGive 21 = .ok (.getfield 19, 3) := by decide +kernel
theorem iX4_canGive_21 (hh : h r = some (a, .inr (5, fs))) (hv : fs[1]? = some v) (g : z_J Z mX4_canGive R k n Q 24 ls (v :: st) h) : z_J Z mX4_canGive R k n Q 21 ls (.ref a :: st) h := z_get dX4_canGive_21 rfl fl_X4_19 hh hv g
theorem dX4_canGive_24 : decode cX4_canGive 24 = .ok (.if_icmp .lt 15, 3) := by decide +kernel
theorem iX4_canGive_24 (kt : x < y → z_J Z mX4_canGive R k n Q 39 ls st h) (kf : ¬ x < y → z_J Z mX4_canGive R k n Q 27 ls st h) : z_J Z mX4_canGive R k n Q 24 ls (.int y :: .int x :: st) h := z_ic_lt dX4_canGive_24 (tgt := 39) (by decide) rfl kt kf
def bX4_canGive_27 : zB := [(27, .iload_n 3, 28, nI 0), (28, .aload_n 0, 29, nI 0)]
theorem bX4_canGive_27_ok : z_ok cX4_canGive 27 bX4_canGive_27 29 = true := by decide +kernel
theorem iX4_canGive_27 (hr : z_run 4 bX4_canGive_27 ls st = some (ls', st')) (g : z_J Z mX4_canGive R k n Q 29 ls' st' h) : z_J Z mX4_canGive R k n Q 27 ls st h := z_jr bX4_canGive_27 bX4_canGive_27_ok hr g
theorem dX4_canGive_29 : decode cX4_canGive 29 = .ok (.getfield 22, 3) := by decide +kernel
theorem iX4_canGive_29 (hh : h r = some (a, .inr (5, fs))) (hv : fs[2]? = some v) (g : z_J Z mX4_canGive R k n Q 32 ls (v :: st) h) : z_J Z mX4_canGive R k n Q 29 ls (.ref a :: st) h := z_get dX4_canGive_29 rfl fl_X4_22 hh hv g
theorem dX4_canGive_32 : decode cX4_canGive 32 = .ok (.if_icmp .gt 7, 3) := by decide +kernel
theorem iX4_canGive_32 (kt : y < x → z_J Z mX4_canGive R k n Q 39 ls st h) (kf : ¬ y < x → z_J Z mX4_canGive R k n Q 35 ls st h) : z_J Z mX4_canGive R k n Q 32 ls (.int y :: .int x :: st) h := z_ic_gt dX4_canGive_32 (tgt := 39) (by decide) rfl kt kf
def bX4_canGive_35 : zB := [(35, .iconst 1, 36, nI 1), (36, .goto 4, 40, nI 0)]
theorem bX4_canGive_35_ok : z_ok cX4_canGive 35 bX4_canGive_35 40 = true := by decide +kernel
theorem iX4_canGive_35 (hr : z_run 4 bX4_canGive_35 ls st = some (ls', st')) (g : z_J Z mX4_canGive R k n Q 40 ls' st' h) : z_J Z mX4_canGive R k n Q 35 ls st h := z_jr bX4_canGive_35 bX4_canGive_35_ok hr g
def bX4_canGive_39 : zB := [(39, .iconst 0, 40, nI 0)]
theorem bX4_canGive_39_ok : z_ok cX4_canGive 39 bX4_canGive_39 40 = true := by decide +kernel
theorem iX4_canGive_39 (hr : z_run 4 bX4_canGive_39 ls st = some (ls', st')) (g : z_J Z mX4_canGive R k n Q 40 ls' st' h) : z_J Z mX4_canGive R k n Q 39 ls st h := z_jr bX4_canGive_39 bX4_canGive_39_ok hr g
theorem dX4_canGive_40 : decode cX4_canGive 40 = .ok (.ireturn, 1) := by decide +kernel
theorem iX4_canGive_40 (hz : narrow .boolean (.int x) = .int x) (hk : k ≤ R.cells) (hs : n ≤ R.slots) (hq : Q (.inl (some (.int x))) h) : z_J Z mX4_canGive R k n Q 40 ls [.int x] h := z_iret (ty := .boolean) dX4_canGive_40 rfl hz hk hs hq
/-! X5_init -/
def bX5_init_0 : zB := [(0, .aload_n 0, 1, nI 0)]
theorem bX5_init_0_ok : z_ok cX5_init 0 bX5_init_0 1 = true := by decide +kernel
theorem iX5_init_0 (hr : z_run 1 bX5_init_0 ls st = some (ls', st')) (g : z_J Z mX5_init R k n Q 1 ls' st' h) : z_J Z mX5_init R k n Q 0 ls st h := z_jr bX5_init_0 bX5_init_0_ok hr g
theorem dX5_init_1 : decode cX5_init 1 = .ok (.invokespecial 3, 3) := by decide +kernel
theorem iX5_init_1 (hst : (st.map fun v => v.category).sum + 12 ≤ R.locals) (hf : 1 ≤ R.frames) (g : z_J Z mX5_init R k n Q 4 ls st h) : z_J Z mX5_init R k n Q 1 ls (.ref a :: st) h := z_objI dX5_init_1 rfl gw59 gw60 gw_objInit hst hf g
def bX5_init_4 : zB := [(4, .aload_n 0, 5, nI 0)]
theorem bX5_init_4_ok : z_ok cX5_init 4 bX5_init_4 5 = true := by decide +kernel
theorem iX5_init_4 (hr : z_run 1 bX5_init_4 ls st = some (ls', st')) (g : z_J Z mX5_init R k n Q 5 ls' st' h) : z_J Z mX5_init R k n Q 4 ls st h := z_jr bX5_init_4 bX5_init_4_ok hr g
theorem dX5_init_5 : decode cX5_init 5 = .ok (.new 9, 3) := by decide +kernel
theorem iX5_init_5 (r : Nat) (hR : k + 1 ≤ R.cells ∧ n + 3 ≤ R.slots) (g : ∀ q, z_J Z mX5_init R (k + 1) (n + 3) Q 8 ls (.ref q :: st) (z_u h r (q, .inr (0, [.int 0, .null, .int 0])))) : z_J Z mX5_init R k n Q 5 ls st h := z_new r (ty := tyJx4a65c) dX5_init_5 rfl (ci := 0) rfl inG_Jx4a65c tyJx4a65c_ok gw62 gw63 gw35 (by decide +kernel) hR g
def bX5_init_8 : zB := [(8, .dup, 9, nI 0)]
theorem bX5_init_8_ok : z_ok cX5_init 8 bX5_init_8 9 = true := by decide +kernel
theorem iX5_init_8 (hr : z_run 1 bX5_init_8 ls st = some (ls', st')) (g : z_J Z mX5_init R k n Q 9 ls' st' h) : z_J Z mX5_init R k n Q 8 ls st h := z_jr bX5_init_8 bX5_init_8_ok hr g
theorem dX5_init_9 : decode cX5_init 9 = .ok (.invokespecial 11, 3) := by decide +kernel
theorem iX5_init_9 (ha : z_args 0 st [] = some (As, .ref b :: rest)) (hc : z_chk rest (.ref b :: As) 1 = true) (hR : z_rm R R' 1 k n) (hq : ∀ E h', ¬ Q' (.inr E) h') (gc : z_J Z mJx4a65c_init_da8c8 R' 0 0 Q' 0 (.ref b :: As) [] h) (kr : ∀ (v : Option Value) (h' : zH), Q' (.inl v) h' → z_J Z mX5_init R (k + R'.cells) (n + R'.slots) Q 12 ls (v.toList ++ rest) h') : z_J Z mX5_init R k n Q 9 ls st h := z_callI (M' := mJx4a65c_init_da8c8) dX5_init_9 rfl cs_X5_11 rfl rfl gw65 rfl ha hR (z_chk1 hc) (z_chk2 hc) (z_chk3 hc) hq gc kr
theorem dX5_init_12 : decode cX5_init 12 = .ok (.putfield 12, 3) := by decide +kernel
theorem iX5_init_12 (hh : h r = some (a, .inr (6, fs))) (hl : Nat.blt 0 fs.length = true) (g : z_J Z mX5_init R k n Q 15 ls st (z_u h r (a, .inr (6, fs.set 0 (.ref b))))) : z_J Z mX5_init R k n Q 12 ls ((.ref b) :: .ref a :: st) h := z_putF dX5_init_12 rfl fl_X5_12 fw_X5_0 rfl rfl rfl hh rfl rfl (by simpa [Nat.blt_eq] using hl) g
theorem iX5_init_12N (hh : h r = some (a, .inr (6, fs))) (hl : Nat.blt 0 fs.length = true) (g : z_J Z mX5_init R k n Q 15 ls st (z_u h r (a, .inr (6, fs.set 0 (.null))))) : z_J Z mX5_init R k n Q 12 ls ((.null) :: .ref a :: st) h := z_putF dX5_init_12 rfl fl_X5_12 fw_X5_0 rfl rfl rfl hh rfl rfl (by simpa [Nat.blt_eq] using hl) g
def bX5_init_15 : zB := [(15, .aload_n 0, 16, nI 0)]
theorem bX5_init_15_ok : z_ok cX5_init 15 bX5_init_15 16 = true := by decide +kernel
theorem iX5_init_15 (hr : z_run 1 bX5_init_15 ls st = some (ls', st')) (g : z_J Z mX5_init R k n Q 16 ls' st' h) : z_J Z mX5_init R k n Q 15 ls st h := z_jr bX5_init_15 bX5_init_15_ok hr g
theorem dX5_init_16 : decode cX5_init 16 = .ok (.new 9, 3) := by decide +kernel
theorem iX5_init_16 (r : Nat) (hR : k + 1 ≤ R.cells ∧ n + 3 ≤ R.slots) (g : ∀ q, z_J Z mX5_init R (k + 1) (n + 3) Q 19 ls (.ref q :: st) (z_u h r (q, .inr (0, [.int 0, .null, .int 0])))) : z_J Z mX5_init R k n Q 16 ls st h := z_new r (ty := tyJx4a65c) dX5_init_16 rfl (ci := 0) rfl inG_Jx4a65c tyJx4a65c_ok gw62 gw63 gw35 (by decide +kernel) hR g
def bX5_init_19 : zB := [(19, .dup, 20, nI 0)]
theorem bX5_init_19_ok : z_ok cX5_init 19 bX5_init_19 20 = true := by decide +kernel
theorem iX5_init_19 (hr : z_run 1 bX5_init_19 ls st = some (ls', st')) (g : z_J Z mX5_init R k n Q 20 ls' st' h) : z_J Z mX5_init R k n Q 19 ls st h := z_jr bX5_init_19 bX5_init_19_ok hr g
theorem dX5_init_20 : decode cX5_init 20 = .ok (.invokespecial 11, 3) := by decide +kernel
theorem iX5_init_20 (ha : z_args 0 st [] = some (As, .ref b :: rest)) (hc : z_chk rest (.ref b :: As) 1 = true) (hR : z_rm R R' 1 k n) (hq : ∀ E h', ¬ Q' (.inr E) h') (gc : z_J Z mJx4a65c_init_da8c8 R' 0 0 Q' 0 (.ref b :: As) [] h) (kr : ∀ (v : Option Value) (h' : zH), Q' (.inl v) h' → z_J Z mX5_init R (k + R'.cells) (n + R'.slots) Q 23 ls (v.toList ++ rest) h') : z_J Z mX5_init R k n Q 20 ls st h := z_callI (M' := mJx4a65c_init_da8c8) dX5_init_20 rfl cs_X5_11 rfl rfl gw65 rfl ha hR (z_chk1 hc) (z_chk2 hc) (z_chk3 hc) hq gc kr
theorem dX5_init_23 : decode cX5_init 23 = .ok (.putfield 16, 3) := by decide +kernel
theorem iX5_init_23 (hh : h r = some (a, .inr (6, fs))) (hl : Nat.blt 1 fs.length = true) (g : z_J Z mX5_init R k n Q 26 ls st (z_u h r (a, .inr (6, fs.set 1 (.ref b))))) : z_J Z mX5_init R k n Q 23 ls ((.ref b) :: .ref a :: st) h := z_putF dX5_init_23 rfl fl_X5_16 fw_X5_1 rfl rfl rfl hh rfl rfl (by simpa [Nat.blt_eq] using hl) g
theorem iX5_init_23N (hh : h r = some (a, .inr (6, fs))) (hl : Nat.blt 1 fs.length = true) (g : z_J Z mX5_init R k n Q 26 ls st (z_u h r (a, .inr (6, fs.set 1 (.null))))) : z_J Z mX5_init R k n Q 23 ls ((.null) :: .ref a :: st) h := z_putF dX5_init_23 rfl fl_X5_16 fw_X5_1 rfl rfl rfl hh rfl rfl (by simpa [Nat.blt_eq] using hl) g
def bX5_init_26 : zB := [(26, .aload_n 0, 27, nI 0), (27, .iconst 5, 28, nI 5)]
theorem bX5_init_26_ok : z_ok cX5_init 26 bX5_init_26 28 = true := by decide +kernel
theorem iX5_init_26 (hr : z_run 1 bX5_init_26 ls st = some (ls', st')) (g : z_J Z mX5_init R k n Q 28 ls' st' h) : z_J Z mX5_init R k n Q 26 ls st h := z_jr bX5_init_26 bX5_init_26_ok hr g
theorem dX5_init_28 : decode cX5_init 28 = .ok (.newarray .int, 2) := by decide +kernel
theorem iX5_init_28 (r : Nat) (hi : i = nI N) (hN : N < 1000) (hR : k + 1 ≤ R.cells ∧ n + N ≤ R.slots) (g : ∀ q, z_J Z mX5_init R (k + 1) (n + N) Q 30 ls (.ref q :: st) (z_u h r (q, .inl (0, N, .inl (fun _ => 0))))) : z_J Z mX5_init R k n Q 28 ls (.int i :: st) h := z_newa r (ty := .int) (t := 0) (a0 := (N, .inl (fun _ => 0))) dX5_init_28 rfl rfl (fun _ => rfl) (fun _ q => by cases q) gw122 (fun _ => rfl) hi hN hR (by show N * 4 ≤ 536870912; omega) g
theorem dX5_init_30 : decode cX5_init 30 = .ok (.putfield 19, 3) := by decide +kernel
theorem iX5_init_30 (hh : h r = some (a, .inr (6, fs))) (hl : Nat.blt 2 fs.length = true) (g : z_J Z mX5_init R k n Q 33 ls st (z_u h r (a, .inr (6, fs.set 2 (.ref b))))) : z_J Z mX5_init R k n Q 30 ls ((.ref b) :: .ref a :: st) h := z_putF dX5_init_30 rfl fl_X5_19 fw_X5_2 rfl rfl rfl hh rfl rfl (by simpa [Nat.blt_eq] using hl) g
theorem iX5_init_30N (hh : h r = some (a, .inr (6, fs))) (hl : Nat.blt 2 fs.length = true) (g : z_J Z mX5_init R k n Q 33 ls st (z_u h r (a, .inr (6, fs.set 2 (.null))))) : z_J Z mX5_init R k n Q 30 ls ((.null) :: .ref a :: st) h := z_putF dX5_init_30 rfl fl_X5_19 fw_X5_2 rfl rfl rfl hh rfl rfl (by simpa [Nat.blt_eq] using hl) g
def bX5_init_33 : zB := [(33, .aload_n 0, 34, nI 0)]
theorem bX5_init_33_ok : z_ok cX5_init 33 bX5_init_33 34 = true := by decide +kernel
theorem iX5_init_33 (hr : z_run 1 bX5_init_33 ls st = some (ls', st')) (g : z_J Z mX5_init R k n Q 34 ls' st' h) : z_J Z mX5_init R k n Q 33 ls st h := z_jr bX5_init_33 bX5_init_33_ok hr g
theorem dX5_init_34 : decode cX5_init 34 = .ok (.new 23, 3) := by decide +kernel
theorem iX5_init_34 (r : Nat) (hR : k + 1 ≤ R.cells ∧ n + 7 ≤ R.slots) (g : ∀ q, z_J Z mX5_init R (k + 1) (n + 7) Q 37 ls (.ref q :: st) (z_u h r (q, .inr (4, [.null, .null, .null, .null, .null, .int 0, .null])))) : z_J Z mX5_init R k n Q 34 ls st h := z_new r (ty := tyX3) dX5_init_34 rfl (ci := 4) rfl inG_X3 tyX3_ok gw88 gw89 gw36 (by decide +kernel) hR g
def bX5_init_37 : zB := [(37, .dup, 38, nI 0)]
theorem bX5_init_37_ok : z_ok cX5_init 37 bX5_init_37 38 = true := by decide +kernel
theorem iX5_init_37 (hr : z_run 1 bX5_init_37 ls st = some (ls', st')) (g : z_J Z mX5_init R k n Q 38 ls' st' h) : z_J Z mX5_init R k n Q 37 ls st h := z_jr bX5_init_37 bX5_init_37_ok hr g
theorem dX5_init_38 : decode cX5_init 38 = .ok (.invokespecial 25, 3) := by decide +kernel
theorem iX5_init_38 (ha : z_args 0 st [] = some (As, .ref b :: rest)) (hc : z_chk rest (.ref b :: As) 1 = true) (hR : z_rm R R' 1 k n) (hq : ∀ E h', ¬ Q' (.inr E) h') (gc : z_J Z mX3_init R' 0 0 Q' 0 (.ref b :: As) [] h) (kr : ∀ (v : Option Value) (h' : zH), Q' (.inl v) h' → z_J Z mX5_init R (k + R'.cells) (n + R'.slots) Q 41 ls (v.toList ++ rest) h') : z_J Z mX5_init R k n Q 38 ls st h := z_callIN (M' := mX3_init) (host := "RightsCounter") dX5_init_38 rfl (by decide +kernel) gw36 gw92 (by decide +kernel) (by decide +kernel) rfl rfl gw91 rfl ha hR (z_chk1 hc) (z_chk2 hc) (z_chk3 hc) hq gc kr
theorem dX5_init_41 : decode cX5_init 41 = .ok (.putfield 26, 3) := by decide +kernel
theorem iX5_init_41 (hh : h r = some (a, .inr (6, fs))) (hl : Nat.blt 3 fs.length = true) (g : z_J Z mX5_init R k n Q 44 ls st (z_u h r (a, .inr (6, fs.set 3 (.ref b))))) : z_J Z mX5_init R k n Q 41 ls ((.ref b) :: .ref a :: st) h := z_putF dX5_init_41 rfl fl_X5_26 fw_X5_3 rfl rfl rfl hh rfl rfl (by simpa [Nat.blt_eq] using hl) g
theorem iX5_init_41N (hh : h r = some (a, .inr (6, fs))) (hl : Nat.blt 3 fs.length = true) (g : z_J Z mX5_init R k n Q 44 ls st (z_u h r (a, .inr (6, fs.set 3 (.null))))) : z_J Z mX5_init R k n Q 41 ls ((.null) :: .ref a :: st) h := z_putF dX5_init_41 rfl fl_X5_26 fw_X5_3 rfl rfl rfl hh rfl rfl (by simpa [Nat.blt_eq] using hl) g
def bX5_init_44 : zB := [(44, .aload_n 0, 45, nI 0)]
theorem bX5_init_44_ok : z_ok cX5_init 44 bX5_init_44 45 = true := by decide +kernel
theorem iX5_init_44 (hr : z_run 1 bX5_init_44 ls st = some (ls', st')) (g : z_J Z mX5_init R k n Q 45 ls' st' h) : z_J Z mX5_init R k n Q 44 ls st h := z_jr bX5_init_44 bX5_init_44_ok hr g
theorem dX5_init_45 : decode cX5_init 45 = .ok (.new 30, 3) := by decide +kernel
theorem iX5_init_45 (r : Nat) (hR : k + 1 ≤ R.cells ∧ n + 9 ≤ R.slots) (g : ∀ q, z_J Z mX5_init R (k + 1) (n + 9) Q 48 ls (.ref q :: st) (z_u h r (q, .inr (1, [.null, .null, .null, .int 0, .null, .null, .null, .int 0, .int 0])))) : z_J Z mX5_init R k n Q 45 ls st h := z_new r (ty := tyX0) dX5_init_45 rfl (ci := 1) rfl inG_X0 tyX0_ok gw123 gw124 gw37 (by decide +kernel) hR g
def bX5_init_48 : zB := [(48, .dup, 49, nI 0)]
theorem bX5_init_48_ok : z_ok cX5_init 48 bX5_init_48 49 = true := by decide +kernel
theorem iX5_init_48 (hr : z_run 1 bX5_init_48 ls st = some (ls', st')) (g : z_J Z mX5_init R k n Q 49 ls' st' h) : z_J Z mX5_init R k n Q 48 ls st h := z_jr bX5_init_48 bX5_init_48_ok hr g
theorem dX5_init_49 : decode cX5_init 49 = .ok (.invokespecial 32, 3) := by decide +kernel
theorem iX5_init_49 (ha : z_args 0 st [] = some (As, .ref b :: rest)) (hc : z_chk rest (.ref b :: As) 1 = true) (hR : z_rm R R' 1 k n) (hq : ∀ E h', ¬ Q' (.inr E) h') (gc : z_J Z mX0_init R' 0 0 Q' 0 (.ref b :: As) [] h) (kr : ∀ (v : Option Value) (h' : zH), Q' (.inl v) h' → z_J Z mX5_init R (k + R'.cells) (n + R'.slots) Q 52 ls (v.toList ++ rest) h') : z_J Z mX5_init R k n Q 49 ls st h := z_callIN (M' := mX0_init) (host := "RightsCounter") dX5_init_49 rfl (by decide +kernel) gw37 gw127 (by decide +kernel) (by decide +kernel) rfl rfl gw126 rfl ha hR (z_chk1 hc) (z_chk2 hc) (z_chk3 hc) hq gc kr
theorem dX5_init_52 : decode cX5_init 52 = .ok (.putfield 33, 3) := by decide +kernel
theorem iX5_init_52 (hh : h r = some (a, .inr (6, fs))) (hl : Nat.blt 4 fs.length = true) (g : z_J Z mX5_init R k n Q 55 ls st (z_u h r (a, .inr (6, fs.set 4 (.ref b))))) : z_J Z mX5_init R k n Q 52 ls ((.ref b) :: .ref a :: st) h := z_putF dX5_init_52 rfl fl_X5_33 fw_X5_4 rfl rfl rfl hh rfl rfl (by simpa [Nat.blt_eq] using hl) g
theorem iX5_init_52N (hh : h r = some (a, .inr (6, fs))) (hl : Nat.blt 4 fs.length = true) (g : z_J Z mX5_init R k n Q 55 ls st (z_u h r (a, .inr (6, fs.set 4 (.null))))) : z_J Z mX5_init R k n Q 52 ls ((.null) :: .ref a :: st) h := z_putF dX5_init_52 rfl fl_X5_33 fw_X5_4 rfl rfl rfl hh rfl rfl (by simpa [Nat.blt_eq] using hl) g
def bX5_init_55 : zB := [(55, .aload_n 0, 56, nI 0)]
theorem bX5_init_55_ok : z_ok cX5_init 55 bX5_init_55 56 = true := by decide +kernel
theorem iX5_init_55 (hr : z_run 1 bX5_init_55 ls st = some (ls', st')) (g : z_J Z mX5_init R k n Q 56 ls' st' h) : z_J Z mX5_init R k n Q 55 ls st h := z_jr bX5_init_55 bX5_init_55_ok hr g
theorem dX5_init_56 : decode cX5_init 56 = .ok (.getfield 19, 3) := by decide +kernel
theorem iX5_init_56 (hh : h r = some (a, .inr (6, fs))) (hv : fs[2]? = some v) (g : z_J Z mX5_init R k n Q 59 ls (v :: st) h) : z_J Z mX5_init R k n Q 56 ls (.ref a :: st) h := z_get dX5_init_56 rfl fl_X5_19 hh hv g
def bX5_init_59 : zB := [(59, .iconst 1, 60, nI 1)]
theorem bX5_init_59_ok : z_ok cX5_init 59 bX5_init_59 60 = true := by decide +kernel
theorem iX5_init_59 (hr : z_run 1 bX5_init_59 ls st = some (ls', st')) (g : z_J Z mX5_init R k n Q 60 ls' st' h) : z_J Z mX5_init R k n Q 59 ls st h := z_jr bX5_init_59 bX5_init_59_ok hr g
theorem dX5_init_60 : decode cX5_init 60 = .ok (.invokestatic 37, 3) := by decide +kernel
theorem iX5_init_60 (ha : z_args 2 st [] = some (As, rest)) (hc : z_chk rest As 4 = true) (hR : z_rm R R' 4 k n) (gc : z_J Z mJ7_fill_53178 R' 0 0 Q' 0 As [] h) (kr : ∀ (v : Option Value) (h' : zH), Q' (.inl v) h' → z_J Z mX5_init R (k + R'.cells) (n + R'.slots) Q 63 ls (v.toList ++ rest) h') (kx : ∀ (E : String) (h' : zH), Q' (.inr E) h' → z_JX Z mX5_init R (k + R'.cells) (n + R'.slots) Q 60 ls E h') : z_J Z mX5_init R k n Q 60 ls st h := z_callS (M' := mJ7_fill_53178) dX5_init_60 rfl cs_X5_37 gw160 ha hR (z_chk1 hc) (z_chk2 hc) (z_chk3 hc) gc kr kx
theorem dX5_init_63 : decode cX5_init 63 = .ok (.return_, 1) := by decide +kernel
theorem iX5_init_63 (hk : k ≤ R.cells) (hs : n ≤ R.slots) (hq : Q (.inl none) h) : z_J Z mX5_init R k n Q 63 ls [] h := z_vret dX5_init_63 rfl hk hs hq
/-! X5_addRight -/
def bX5_addRight_0 : zB := [(0, .iload_n 1, 1, nI 0), (1, .iconst 1, 2, nI 1), (2, .bipush 31, 4, nI 31)]
theorem bX5_addRight_0_ok : z_ok cX5_addRight 0 bX5_addRight_0 4 = true := by decide +kernel
theorem iX5_addRight_0 (hr : z_run 6 bX5_addRight_0 ls st = some (ls', st')) (g : z_J Z mX5_addRight R k n Q 4 ls' st' h) : z_J Z mX5_addRight R k n Q 0 ls st h := z_jr bX5_addRight_0 bX5_addRight_0_ok hr g
theorem dX5_addRight_4 : decode cX5_addRight 4 = .ok (.invokestatic 43, 3) := by decide +kernel
theorem iX5_addRight_4 (ha : z_args 3 st [] = some (As, rest)) (hc : z_chk rest As 3 = true) (hR : z_rm R R' 3 k n) (gc : z_J Z mX5_checkArgument R' 0 0 Q' 0 As [] h) (kr : ∀ (v : Option Value) (h' : zH), Q' (.inl v) h' → z_J Z mX5_addRight R (k + R'.cells) (n + R'.slots) Q 7 ls (v.toList ++ rest) h') (kx : ∀ (E : String) (h' : zH), Q' (.inr E) h' → z_JX Z mX5_addRight R (k + R'.cells) (n + R'.slots) Q 4 ls E h') : z_J Z mX5_addRight R k n Q 4 ls st h := z_callS (M' := mX5_checkArgument) dX5_addRight_4 rfl cs_X5_43 gw200 ha hR (z_chk1 hc) (z_chk2 hc) (z_chk3 hc) gc kr kx
def bX5_addRight_7 : zB := [(7, .iload_n 2, 8, nI 0), (8, .iconst 1, 9, nI 1), (9, .bipush 9, 11, nI 9)]
theorem bX5_addRight_7_ok : z_ok cX5_addRight 7 bX5_addRight_7 11 = true := by decide +kernel
theorem iX5_addRight_7 (hr : z_run 6 bX5_addRight_7 ls st = some (ls', st')) (g : z_J Z mX5_addRight R k n Q 11 ls' st' h) : z_J Z mX5_addRight R k n Q 7 ls st h := z_jr bX5_addRight_7 bX5_addRight_7_ok hr g
theorem dX5_addRight_11 : decode cX5_addRight 11 = .ok (.invokestatic 43, 3) := by decide +kernel
theorem iX5_addRight_11 (ha : z_args 3 st [] = some (As, rest)) (hc : z_chk rest As 3 = true) (hR : z_rm R R' 3 k n) (gc : z_J Z mX5_checkArgument R' 0 0 Q' 0 As [] h) (kr : ∀ (v : Option Value) (h' : zH), Q' (.inl v) h' → z_J Z mX5_addRight R (k + R'.cells) (n + R'.slots) Q 14 ls (v.toList ++ rest) h') (kx : ∀ (E : String) (h' : zH), Q' (.inr E) h' → z_JX Z mX5_addRight R (k + R'.cells) (n + R'.slots) Q 11 ls E h') : z_J Z mX5_addRight R k n Q 11 ls st h := z_callS (M' := mX5_checkArgument) dX5_addRight_11 rfl cs_X5_43 gw200 ha hR (z_chk1 hc) (z_chk2 hc) (z_chk3 hc) gc kr kx
def bX5_addRight_14 : zB := [(14, .iload_n 3, 15, nI 0), (15, .iconst 1, 16, nI 1), (16, .bipush 100, 18, nI 100)]
theorem bX5_addRight_14_ok : z_ok cX5_addRight 14 bX5_addRight_14 18 = true := by decide +kernel
theorem iX5_addRight_14 (hr : z_run 6 bX5_addRight_14 ls st = some (ls', st')) (g : z_J Z mX5_addRight R k n Q 18 ls' st' h) : z_J Z mX5_addRight R k n Q 14 ls st h := z_jr bX5_addRight_14 bX5_addRight_14_ok hr g
theorem dX5_addRight_18 : decode cX5_addRight 18 = .ok (.invokestatic 43, 3) := by decide +kernel
theorem iX5_addRight_18 (ha : z_args 3 st [] = some (As, rest)) (hc : z_chk rest As 3 = true) (hR : z_rm R R' 3 k n) (gc : z_J Z mX5_checkArgument R' 0 0 Q' 0 As [] h) (kr : ∀ (v : Option Value) (h' : zH), Q' (.inl v) h' → z_J Z mX5_addRight R (k + R'.cells) (n + R'.slots) Q 21 ls (v.toList ++ rest) h') (kx : ∀ (E : String) (h' : zH), Q' (.inr E) h' → z_JX Z mX5_addRight R (k + R'.cells) (n + R'.slots) Q 18 ls E h') : z_J Z mX5_addRight R k n Q 18 ls st h := z_callS (M' := mX5_checkArgument) dX5_addRight_18 rfl cs_X5_43 gw200 ha hR (z_chk1 hc) (z_chk2 hc) (z_chk3 hc) gc kr kx
def bX5_addRight_21 : zB := [(21, .iload 4, 23, nI 0), (23, .iconst 0, 24, nI 0), (24, .sipush 720, 27, nI 720)]
theorem bX5_addRight_21_ok : z_ok cX5_addRight 21 bX5_addRight_21 27 = true := by decide +kernel
theorem iX5_addRight_21 (hr : z_run 6 bX5_addRight_21 ls st = some (ls', st')) (g : z_J Z mX5_addRight R k n Q 27 ls' st' h) : z_J Z mX5_addRight R k n Q 21 ls st h := z_jr bX5_addRight_21 bX5_addRight_21_ok hr g
theorem dX5_addRight_27 : decode cX5_addRight 27 = .ok (.invokestatic 43, 3) := by decide +kernel
theorem iX5_addRight_27 (ha : z_args 3 st [] = some (As, rest)) (hc : z_chk rest As 3 = true) (hR : z_rm R R' 3 k n) (gc : z_J Z mX5_checkArgument R' 0 0 Q' 0 As [] h) (kr : ∀ (v : Option Value) (h' : zH), Q' (.inl v) h' → z_J Z mX5_addRight R (k + R'.cells) (n + R'.slots) Q 30 ls (v.toList ++ rest) h') (kx : ∀ (E : String) (h' : zH), Q' (.inr E) h' → z_JX Z mX5_addRight R (k + R'.cells) (n + R'.slots) Q 27 ls E h') : z_J Z mX5_addRight R k n Q 27 ls st h := z_callS (M' := mX5_checkArgument) dX5_addRight_27 rfl cs_X5_43 gw200 ha hR (z_chk1 hc) (z_chk2 hc) (z_chk3 hc) gc kr kx
def bX5_addRight_30 : zB := [(30, .iload 5, 32, nI 0), (32, .iload 4, 34, nI 0), (34, .sipush 720, 37, nI 720)]
theorem bX5_addRight_30_ok : z_ok cX5_addRight 30 bX5_addRight_30 37 = true := by decide +kernel
theorem iX5_addRight_30 (hr : z_run 6 bX5_addRight_30 ls st = some (ls', st')) (g : z_J Z mX5_addRight R k n Q 37 ls' st' h) : z_J Z mX5_addRight R k n Q 30 ls st h := z_jr bX5_addRight_30 bX5_addRight_30_ok hr g
theorem dX5_addRight_37 : decode cX5_addRight 37 = .ok (.invokestatic 43, 3) := by decide +kernel
theorem iX5_addRight_37 (ha : z_args 3 st [] = some (As, rest)) (hc : z_chk rest As 3 = true) (hR : z_rm R R' 3 k n) (gc : z_J Z mX5_checkArgument R' 0 0 Q' 0 As [] h) (kr : ∀ (v : Option Value) (h' : zH), Q' (.inl v) h' → z_J Z mX5_addRight R (k + R'.cells) (n + R'.slots) Q 40 ls (v.toList ++ rest) h') (kx : ∀ (E : String) (h' : zH), Q' (.inr E) h' → z_JX Z mX5_addRight R (k + R'.cells) (n + R'.slots) Q 37 ls E h') : z_J Z mX5_addRight R k n Q 37 ls st h := z_callS (M' := mX5_checkArgument) dX5_addRight_37 rfl cs_X5_43 gw200 ha hR (z_chk1 hc) (z_chk2 hc) (z_chk3 hc) gc kr kx
def bX5_addRight_40 : zB := [(40, .aload_n 0, 41, nI 0)]
theorem bX5_addRight_40_ok : z_ok cX5_addRight 40 bX5_addRight_40 41 = true := by decide +kernel
theorem iX5_addRight_40 (hr : z_run 6 bX5_addRight_40 ls st = some (ls', st')) (g : z_J Z mX5_addRight R k n Q 41 ls' st' h) : z_J Z mX5_addRight R k n Q 40 ls st h := z_jr bX5_addRight_40 bX5_addRight_40_ok hr g
theorem dX5_addRight_41 : decode cX5_addRight 41 = .ok (.getfield 12, 3) := by decide +kernel
theorem iX5_addRight_41 (hh : h r = some (a, .inr (6, fs))) (hv : fs[0]? = some v) (g : z_J Z mX5_addRight R k n Q 44 ls (v :: st) h) : z_J Z mX5_addRight R k n Q 41 ls (.ref a :: st) h := z_get dX5_addRight_41 rfl fl_X5_12 hh hv g
theorem dX5_addRight_44 : decode cX5_addRight 44 = .ok (.invokevirtual 47, 3) := by decide +kernel
theorem iX5_addRight_44 (ha : z_args 0 st [] = some (As, .ref b :: rest)) (hc : z_chk rest (.ref b :: As) 1 = true) (hh : h r = some (b, .inr (0, fs))) (hR : z_rm R R' 1 k n) (gc : z_J Z mJx4a65c_size_8abf5 R' 0 0 Q' 0 (.ref b :: As) [] h) (kr : ∀ (v : Option Value) (h' : zH), Q' (.inl v) h' → z_J Z mX5_addRight R (k + R'.cells) (n + R'.slots) Q 47 ls (v.toList ++ rest) h') (kx : ∀ (E : String) (h' : zH), Q' (.inr E) h' → z_JX Z mX5_addRight R (k + R'.cells) (n + R'.slots) Q 44 ls E h') : z_J Z mX5_addRight R k n Q 44 ls st h := z_callV (M' := mJx4a65c_size_8abf5) dX5_addRight_44 rfl cs_X5_47 rfl gw183 gw184 ha hh (ci := 0) rfl hR (z_chk1 hc) (z_chk2 hc) (z_chk3 hc) gc kr kx
def bX5_addRight_47 : zB := [(47, .bipush 10, 49, nI 10)]
theorem bX5_addRight_47_ok : z_ok cX5_addRight 47 bX5_addRight_47 49 = true := by decide +kernel
theorem iX5_addRight_47 (hr : z_run 6 bX5_addRight_47 ls st = some (ls', st')) (g : z_J Z mX5_addRight R k n Q 49 ls' st' h) : z_J Z mX5_addRight R k n Q 47 ls st h := z_jr bX5_addRight_47 bX5_addRight_47_ok hr g
theorem dX5_addRight_49 : decode cX5_addRight 49 = .ok (.if_icmp .lt 13, 3) := by decide +kernel
theorem iX5_addRight_49 (kt : x < y → z_J Z mX5_addRight R k n Q 62 ls st h) (kf : ¬ x < y → z_J Z mX5_addRight R k n Q 52 ls st h) : z_J Z mX5_addRight R k n Q 49 ls (.int y :: .int x :: st) h := z_ic_lt dX5_addRight_49 (tgt := 62) (by decide) rfl kt kf
theorem dX5_addRight_52 : decode cX5_addRight 52 = .ok (.new 51, 3) := by decide +kernel
theorem dX5_addRight_55 : decode cX5_addRight 55 = .ok (.dup, 1) := by decide +kernel
theorem dX5_addRight_56 : decode cX5_addRight 56 = .ok (.ldc 53, 2) := by decide +kernel
theorem dX5_addRight_58 : decode cX5_addRight 58 = .ok (.invokespecial 55, 3) := by decide +kernel
theorem dX5_addRight_61 : decode cX5_addRight 61 = .ok (.athrow, 1) := by decide +kernel
theorem iX5_addRight_52 (hRf : 5 < R.frames) (hRl : (st.map fun v => v.category).sum + 82 ≤ R.locals) (hRc : k + 1 ≤ R.cells) (hRs : n + 6 ≤ R.slots) (hq : Q (.inr "java/lang/IllegalStateException") h) : z_J Z mX5_addRight R k n Q 52 ls st h := z_throw (names := ["java/lang/RuntimeException", "java/lang/Exception"]) (text := "there are 10 rights") rfl dX5_addRight_52 dX5_addRight_55 dX5_addRight_56 dX5_addRight_58 dX5_addRight_61 (by decide +kernel) (by decide +kernel) gw270 gw44 (by decide +kernel) at_X5_55 at_X5_55_g hRf hRl hRc hRs hq
def bX5_addRight_62 : zB := [(62, .aload_n 0, 63, nI 0)]
theorem bX5_addRight_62_ok : z_ok cX5_addRight 62 bX5_addRight_62 63 = true := by decide +kernel
theorem iX5_addRight_62 (hr : z_run 6 bX5_addRight_62 ls st = some (ls', st')) (g : z_J Z mX5_addRight R k n Q 63 ls' st' h) : z_J Z mX5_addRight R k n Q 62 ls st h := z_jr bX5_addRight_62 bX5_addRight_62_ok hr g
theorem dX5_addRight_63 : decode cX5_addRight 63 = .ok (.getfield 12, 3) := by decide +kernel
theorem iX5_addRight_63 (hh : h r = some (a, .inr (6, fs))) (hv : fs[0]? = some v) (g : z_J Z mX5_addRight R k n Q 66 ls (v :: st) h) : z_J Z mX5_addRight R k n Q 63 ls (.ref a :: st) h := z_get dX5_addRight_63 rfl fl_X5_12 hh hv g
theorem dX5_addRight_66 : decode cX5_addRight 66 = .ok (.new 58, 3) := by decide +kernel
theorem iX5_addRight_66 (r : Nat) (hR : k + 1 ≤ R.cells ∧ n + 5 ≤ R.slots) (g : ∀ q, z_J Z mX5_addRight R (k + 1) (n + 5) Q 69 ls (.ref q :: st) (z_u h r (q, .inr (5, [.int 0, .int 0, .int 0, .int 0, .int 0])))) : z_J Z mX5_addRight R k n Q 66 ls st h := z_new r (ty := tyX4) dX5_addRight_66 rfl (ci := 5) rfl inG_X4 tyX4_ok gw286 gw287 gw45 (by decide +kernel) hR g
def bX5_addRight_69 : zB := [(69, .dup, 70, nI 0), (70, .iload_n 1, 71, nI 0), (71, .iload_n 2, 72, nI 0), (72, .iload_n 3, 73, nI 0), (73, .iload 4, 75, nI 0), (75, .iload 5, 77, nI 0)]
theorem bX5_addRight_69_ok : z_ok cX5_addRight 69 bX5_addRight_69 77 = true := by decide +kernel
theorem iX5_addRight_69 (hr : z_run 6 bX5_addRight_69 ls st = some (ls', st')) (g : z_J Z mX5_addRight R k n Q 77 ls' st' h) : z_J Z mX5_addRight R k n Q 69 ls st h := z_jr bX5_addRight_69 bX5_addRight_69_ok hr g
theorem dX5_addRight_77 : decode cX5_addRight 77 = .ok (.invokespecial 60, 3) := by decide +kernel
theorem iX5_addRight_77 (ha : z_args 5 st [] = some (As, .ref b :: rest)) (hc : z_chk rest (.ref b :: As) 6 = true) (hR : z_rm R R' 6 k n) (hq : ∀ E h', ¬ Q' (.inr E) h') (gc : z_J Z mX4_init R' 0 0 Q' 0 (.ref b :: As) [] h) (kr : ∀ (v : Option Value) (h' : zH), Q' (.inl v) h' → z_J Z mX5_addRight R (k + R'.cells) (n + R'.slots) Q 80 ls (v.toList ++ rest) h') : z_J Z mX5_addRight R k n Q 77 ls st h := z_callI (M' := mX4_init) dX5_addRight_77 rfl cs_X5_60 rfl rfl gw289 rfl ha hR (z_chk1 hc) (z_chk2 hc) (z_chk3 hc) hq gc kr
theorem dX5_addRight_80 : decode cX5_addRight 80 = .ok (.invokevirtual 63, 3) := by decide +kernel
theorem iX5_addRight_80 (ha : z_args 1 st [] = some (As, .ref b :: rest)) (hc : z_chk rest (.ref b :: As) 2 = true) (hh : h r = some (b, .inr (0, fs))) (hR : z_rm R R' 2 k n) (gc : z_J Z mJx4a65c_add_9ea2d R' 0 0 Q' 0 (.ref b :: As) [] h) (kr : ∀ (v : Option Value) (h' : zH), Q' (.inl v) h' → z_J Z mX5_addRight R (k + R'.cells) (n + R'.slots) Q 83 ls (v.toList ++ rest) h') (kx : ∀ (E : String) (h' : zH), Q' (.inr E) h' → z_JX Z mX5_addRight R (k + R'.cells) (n + R'.slots) Q 80 ls E h') : z_J Z mX5_addRight R k n Q 80 ls st h := z_callV (M' := mJx4a65c_add_9ea2d) dX5_addRight_80 rfl cs_X5_63 rfl gw311 gw312 ha hh (ci := 0) rfl hR (z_chk1 hc) (z_chk2 hc) (z_chk3 hc) gc kr kx
def bX5_addRight_83 : zB := [(83, .pop, 84, nI 0), (84, .aload_n 0, 85, nI 0)]
theorem bX5_addRight_83_ok : z_ok cX5_addRight 83 bX5_addRight_83 85 = true := by decide +kernel
theorem iX5_addRight_83 (hr : z_run 6 bX5_addRight_83 ls st = some (ls', st')) (g : z_J Z mX5_addRight R k n Q 85 ls' st' h) : z_J Z mX5_addRight R k n Q 83 ls st h := z_jr bX5_addRight_83 bX5_addRight_83_ok hr g
theorem dX5_addRight_85 : decode cX5_addRight 85 = .ok (.getfield 12, 3) := by decide +kernel
theorem iX5_addRight_85 (hh : h r = some (a, .inr (6, fs))) (hv : fs[0]? = some v) (g : z_J Z mX5_addRight R k n Q 88 ls (v :: st) h) : z_J Z mX5_addRight R k n Q 85 ls (.ref a :: st) h := z_get dX5_addRight_85 rfl fl_X5_12 hh hv g
theorem dX5_addRight_88 : decode cX5_addRight 88 = .ok (.invokevirtual 47, 3) := by decide +kernel
theorem iX5_addRight_88 (ha : z_args 0 st [] = some (As, .ref b :: rest)) (hc : z_chk rest (.ref b :: As) 1 = true) (hh : h r = some (b, .inr (0, fs))) (hR : z_rm R R' 1 k n) (gc : z_J Z mJx4a65c_size_8abf5 R' 0 0 Q' 0 (.ref b :: As) [] h) (kr : ∀ (v : Option Value) (h' : zH), Q' (.inl v) h' → z_J Z mX5_addRight R (k + R'.cells) (n + R'.slots) Q 91 ls (v.toList ++ rest) h') (kx : ∀ (E : String) (h' : zH), Q' (.inr E) h' → z_JX Z mX5_addRight R (k + R'.cells) (n + R'.slots) Q 88 ls E h') : z_J Z mX5_addRight R k n Q 88 ls st h := z_callV (M' := mJx4a65c_size_8abf5) dX5_addRight_88 rfl cs_X5_47 rfl gw183 gw184 ha hh (ci := 0) rfl hR (z_chk1 hc) (z_chk2 hc) (z_chk3 hc) gc kr kx
def bX5_addRight_91 : zB := [(91, .iconst 1, 92, nI 1), (92, .isub, 93, nI 0)]
theorem bX5_addRight_91_ok : z_ok cX5_addRight 91 bX5_addRight_91 93 = true := by decide +kernel
theorem iX5_addRight_91 (hr : z_run 6 bX5_addRight_91 ls st = some (ls', st')) (g : z_J Z mX5_addRight R k n Q 93 ls' st' h) : z_J Z mX5_addRight R k n Q 91 ls st h := z_jr bX5_addRight_91 bX5_addRight_91_ok hr g
theorem dX5_addRight_93 : decode cX5_addRight 93 = .ok (.ireturn, 1) := by decide +kernel
theorem iX5_addRight_93 (hk : k ≤ R.cells) (hs : n ≤ R.slots) (hq : Q (.inl (some (.int x))) h) : z_J Z mX5_addRight R k n Q 93 ls [.int x] h := z_iret (ty := .int) dX5_addRight_93 rfl rfl hk hs hq
/-! X5_upgrade -/
def bX5_upgrade_0 : zB := [(0, .aload_n 0, 1, nI 0), (1, .iload_n 1, 2, nI 0)]
theorem bX5_upgrade_0_ok : z_ok cX5_upgrade 0 bX5_upgrade_0 2 = true := by decide +kernel
theorem iX5_upgrade_0 (hr : z_run 5 bX5_upgrade_0 ls st = some (ls', st')) (g : z_J Z mX5_upgrade R k n Q 2 ls' st' h) : z_J Z mX5_upgrade R k n Q 0 ls st h := z_jr bX5_upgrade_0 bX5_upgrade_0_ok hr g
theorem dX5_upgrade_2 : decode cX5_upgrade 2 = .ok (.invokevirtual 67, 3) := by decide +kernel
theorem iX5_upgrade_2 (ha : z_args 1 st [] = some (As, .ref b :: rest)) (hc : z_chk rest (.ref b :: As) 2 = true) (hh : h r = some (b, .inr (6, fs))) (hR : z_rm R R' 2 k n) (gc : z_J Z mX5_rightOf R' 0 0 Q' 0 (.ref b :: As) [] h) (kr : ∀ (v : Option Value) (h' : zH), Q' (.inl v) h' → z_J Z mX5_upgrade R (k + R'.cells) (n + R'.slots) Q 5 ls (v.toList ++ rest) h') (kx : ∀ (E : String) (h' : zH), Q' (.inr E) h' → z_JX Z mX5_upgrade R (k + R'.cells) (n + R'.slots) Q 2 ls E h') : z_J Z mX5_upgrade R k n Q 2 ls st h := z_callV (M' := mX5_rightOf) dX5_upgrade_2 rfl cs_X5_67 rfl gw378 gwp4 ha hh (ci := 6) rfl hR (z_chk1 hc) (z_chk2 hc) (z_chk3 hc) gc kr kx
def bX5_upgrade_5 : zB := [(5, .astore_n 3, 6, nI 0), (6, .iload_n 2, 7, nI 0), (7, .iconst 1, 8, nI 1), (8, .bipush 9, 10, nI 9)]
theorem bX5_upgrade_5_ok : z_ok cX5_upgrade 5 bX5_upgrade_5 10 = true := by decide +kernel
theorem iX5_upgrade_5 (hr : z_run 5 bX5_upgrade_5 ls st = some (ls', st')) (g : z_J Z mX5_upgrade R k n Q 10 ls' st' h) : z_J Z mX5_upgrade R k n Q 5 ls st h := z_jr bX5_upgrade_5 bX5_upgrade_5_ok hr g
theorem dX5_upgrade_10 : decode cX5_upgrade 10 = .ok (.invokestatic 43, 3) := by decide +kernel
theorem iX5_upgrade_10 (ha : z_args 3 st [] = some (As, rest)) (hc : z_chk rest As 3 = true) (hR : z_rm R R' 3 k n) (gc : z_J Z mX5_checkArgument R' 0 0 Q' 0 As [] h) (kr : ∀ (v : Option Value) (h' : zH), Q' (.inl v) h' → z_J Z mX5_upgrade R (k + R'.cells) (n + R'.slots) Q 13 ls (v.toList ++ rest) h') (kx : ∀ (E : String) (h' : zH), Q' (.inr E) h' → z_JX Z mX5_upgrade R (k + R'.cells) (n + R'.slots) Q 10 ls E h') : z_J Z mX5_upgrade R k n Q 10 ls st h := z_callS (M' := mX5_checkArgument) dX5_upgrade_10 rfl cs_X5_43 gw200 ha hR (z_chk1 hc) (z_chk2 hc) (z_chk3 hc) gc kr kx
def bX5_upgrade_13 : zB := [(13, .aload_n 3, 14, nI 0)]
theorem bX5_upgrade_13_ok : z_ok cX5_upgrade 13 bX5_upgrade_13 14 = true := by decide +kernel
theorem iX5_upgrade_13 (hr : z_run 5 bX5_upgrade_13 ls st = some (ls', st')) (g : z_J Z mX5_upgrade R k n Q 14 ls' st' h) : z_J Z mX5_upgrade R k n Q 13 ls st h := z_jr bX5_upgrade_13 bX5_upgrade_13_ok hr g
theorem dX5_upgrade_14 : decode cX5_upgrade 14 = .ok (.getfield 71, 3) := by decide +kernel
theorem iX5_upgrade_14 (hh : h r = some (a, .inr (5, fs))) (hv : fs[3]? = some v) (g : z_J Z mX5_upgrade R k n Q 17 ls (v :: st) h) : z_J Z mX5_upgrade R k n Q 14 ls (.ref a :: st) h := z_get dX5_upgrade_14 rfl fl_X5_71 hh hv g
def bX5_upgrade_17 : zB := [(17, .istore 4, 19, nI 0), (19, .iload_n 2, 20, nI 0), (20, .iload 4, 22, nI 0)]
theorem bX5_upgrade_17_ok : z_ok cX5_upgrade 17 bX5_upgrade_17 22 = true := by decide +kernel
theorem iX5_upgrade_17 (hr : z_run 5 bX5_upgrade_17 ls st = some (ls', st')) (g : z_J Z mX5_upgrade R k n Q 22 ls' st' h) : z_J Z mX5_upgrade R k n Q 17 ls st h := z_jr bX5_upgrade_17 bX5_upgrade_17_ok hr g
theorem dX5_upgrade_22 : decode cX5_upgrade 22 = .ok (.if_icmp .gt 13, 3) := by decide +kernel
theorem iX5_upgrade_22 (kt : y < x → z_J Z mX5_upgrade R k n Q 35 ls st h) (kf : ¬ y < x → z_J Z mX5_upgrade R k n Q 25 ls st h) : z_J Z mX5_upgrade R k n Q 22 ls (.int y :: .int x :: st) h := z_ic_gt dX5_upgrade_22 (tgt := 35) (by decide) rfl kt kf
theorem dX5_upgrade_25 : decode cX5_upgrade 25 = .ok (.new 51, 3) := by decide +kernel
theorem dX5_upgrade_28 : decode cX5_upgrade 28 = .ok (.dup, 1) := by decide +kernel
theorem dX5_upgrade_29 : decode cX5_upgrade 29 = .ok (.ldc 75, 2) := by decide +kernel
theorem dX5_upgrade_31 : decode cX5_upgrade 31 = .ok (.invokespecial 55, 3) := by decide +kernel
theorem dX5_upgrade_34 : decode cX5_upgrade 34 = .ok (.athrow, 1) := by decide +kernel
theorem iX5_upgrade_25 (hRf : 5 < R.frames) (hRl : (st.map fun v => v.category).sum + 82 ≤ R.locals) (hRc : k + 1 ≤ R.cells) (hRs : n + 6 ≤ R.slots) (hq : Q (.inr "java/lang/IllegalStateException") h) : z_J Z mX5_upgrade R k n Q 25 ls st h := z_throw (names := ["java/lang/RuntimeException", "java/lang/Exception"]) (text := "the version is not above that of the right") rfl dX5_upgrade_25 dX5_upgrade_28 dX5_upgrade_29 dX5_upgrade_31 dX5_upgrade_34 (by decide +kernel) (by decide +kernel) gw270 gw44 (by decide +kernel) at_X5_55 at_X5_55_g hRf hRl hRc hRs hq
def bX5_upgrade_35 : zB := [(35, .aload_n 3, 36, nI 0), (36, .iload_n 2, 37, nI 0)]
theorem bX5_upgrade_35_ok : z_ok cX5_upgrade 35 bX5_upgrade_35 37 = true := by decide +kernel
theorem iX5_upgrade_35 (hr : z_run 5 bX5_upgrade_35 ls st = some (ls', st')) (g : z_J Z mX5_upgrade R k n Q 37 ls' st' h) : z_J Z mX5_upgrade R k n Q 35 ls st h := z_jr bX5_upgrade_35 bX5_upgrade_35_ok hr g
theorem dX5_upgrade_37 : decode cX5_upgrade 37 = .ok (.putfield 71, 3) := by decide +kernel
theorem iX5_upgrade_37 (hh : h r = some (a, .inr (5, fs))) (hl : Nat.blt 3 fs.length = true) (g : z_J Z mX5_upgrade R k n Q 40 ls st (z_u h r (a, .inr (5, fs.set 3 (.int x))))) : z_J Z mX5_upgrade R k n Q 37 ls ((.int x) :: .ref a :: st) h := z_put dX5_upgrade_37 rfl fl_X5_71 fw_X4_3 rfl hh rfl rfl (by simpa [Nat.blt_eq] using hl) g
def bX5_upgrade_40 : zB := [(40, .iload 4, 42, nI 0)]
theorem bX5_upgrade_40_ok : z_ok cX5_upgrade 40 bX5_upgrade_40 42 = true := by decide +kernel
theorem iX5_upgrade_40 (hr : z_run 5 bX5_upgrade_40 ls st = some (ls', st')) (g : z_J Z mX5_upgrade R k n Q 42 ls' st' h) : z_J Z mX5_upgrade R k n Q 40 ls st h := z_jr bX5_upgrade_40 bX5_upgrade_40_ok hr g
theorem dX5_upgrade_42 : decode cX5_upgrade 42 = .ok (.ireturn, 1) := by decide +kernel
theorem iX5_upgrade_42 (hk : k ≤ R.cells) (hs : n ≤ R.slots) (hq : Q (.inl (some (.int x))) h) : z_J Z mX5_upgrade R k n Q 42 ls [.int x] h := z_iret (ty := .int) dX5_upgrade_42 rfl rfl hk hs hq
/-! X5_setUnits -/
def bX5_setUnits_0 : zB := [(0, .aload_n 0, 1, nI 0), (1, .iload_n 1, 2, nI 0)]
theorem bX5_setUnits_0_ok : z_ok cX5_setUnits 0 bX5_setUnits_0 2 = true := by decide +kernel
theorem iX5_setUnits_0 (hr : z_run 5 bX5_setUnits_0 ls st = some (ls', st')) (g : z_J Z mX5_setUnits R k n Q 2 ls' st' h) : z_J Z mX5_setUnits R k n Q 0 ls st h := z_jr bX5_setUnits_0 bX5_setUnits_0_ok hr g
theorem dX5_setUnits_2 : decode cX5_setUnits 2 = .ok (.invokevirtual 67, 3) := by decide +kernel
theorem iX5_setUnits_2 (ha : z_args 1 st [] = some (As, .ref b :: rest)) (hc : z_chk rest (.ref b :: As) 2 = true) (hh : h r = some (b, .inr (6, fs))) (hR : z_rm R R' 2 k n) (gc : z_J Z mX5_rightOf R' 0 0 Q' 0 (.ref b :: As) [] h) (kr : ∀ (v : Option Value) (h' : zH), Q' (.inl v) h' → z_J Z mX5_setUnits R (k + R'.cells) (n + R'.slots) Q 5 ls (v.toList ++ rest) h') (kx : ∀ (E : String) (h' : zH), Q' (.inr E) h' → z_JX Z mX5_setUnits R (k + R'.cells) (n + R'.slots) Q 2 ls E h') : z_J Z mX5_setUnits R k n Q 2 ls st h := z_callV (M' := mX5_rightOf) dX5_setUnits_2 rfl cs_X5_67 rfl gw378 gwp4 ha hh (ci := 6) rfl hR (z_chk1 hc) (z_chk2 hc) (z_chk3 hc) gc kr kx
def bX5_setUnits_5 : zB := [(5, .astore_n 3, 6, nI 0), (6, .iload_n 2, 7, nI 0), (7, .iconst 0, 8, nI 0), (8, .bipush 100, 10, nI 100)]
theorem bX5_setUnits_5_ok : z_ok cX5_setUnits 5 bX5_setUnits_5 10 = true := by decide +kernel
theorem iX5_setUnits_5 (hr : z_run 5 bX5_setUnits_5 ls st = some (ls', st')) (g : z_J Z mX5_setUnits R k n Q 10 ls' st' h) : z_J Z mX5_setUnits R k n Q 5 ls st h := z_jr bX5_setUnits_5 bX5_setUnits_5_ok hr g
theorem dX5_setUnits_10 : decode cX5_setUnits 10 = .ok (.invokestatic 43, 3) := by decide +kernel
theorem iX5_setUnits_10 (ha : z_args 3 st [] = some (As, rest)) (hc : z_chk rest As 3 = true) (hR : z_rm R R' 3 k n) (gc : z_J Z mX5_checkArgument R' 0 0 Q' 0 As [] h) (kr : ∀ (v : Option Value) (h' : zH), Q' (.inl v) h' → z_J Z mX5_setUnits R (k + R'.cells) (n + R'.slots) Q 13 ls (v.toList ++ rest) h') (kx : ∀ (E : String) (h' : zH), Q' (.inr E) h' → z_JX Z mX5_setUnits R (k + R'.cells) (n + R'.slots) Q 10 ls E h') : z_J Z mX5_setUnits R k n Q 10 ls st h := z_callS (M' := mX5_checkArgument) dX5_setUnits_10 rfl cs_X5_43 gw200 ha hR (z_chk1 hc) (z_chk2 hc) (z_chk3 hc) gc kr kx
def bX5_setUnits_13 : zB := [(13, .aload_n 3, 14, nI 0)]
theorem bX5_setUnits_13_ok : z_ok cX5_setUnits 13 bX5_setUnits_13 14 = true := by decide +kernel
theorem iX5_setUnits_13 (hr : z_run 5 bX5_setUnits_13 ls st = some (ls', st')) (g : z_J Z mX5_setUnits R k n Q 14 ls' st' h) : z_J Z mX5_setUnits R k n Q 13 ls st h := z_jr bX5_setUnits_13 bX5_setUnits_13_ok hr g
theorem dX5_setUnits_14 : decode cX5_setUnits 14 = .ok (.getfield 77, 3) := by decide +kernel
theorem iX5_setUnits_14 (hh : h r = some (a, .inr (5, fs))) (hv : fs[4]? = some v) (g : z_J Z mX5_setUnits R k n Q 17 ls (v :: st) h) : z_J Z mX5_setUnits R k n Q 14 ls (.ref a :: st) h := z_get dX5_setUnits_14 rfl fl_X5_77 hh hv g
def bX5_setUnits_17 : zB := [(17, .istore 4, 19, nI 0), (19, .aload_n 3, 20, nI 0), (20, .iload_n 2, 21, nI 0)]
theorem bX5_setUnits_17_ok : z_ok cX5_setUnits 17 bX5_setUnits_17 21 = true := by decide +kernel
theorem iX5_setUnits_17 (hr : z_run 5 bX5_setUnits_17 ls st = some (ls', st')) (g : z_J Z mX5_setUnits R k n Q 21 ls' st' h) : z_J Z mX5_setUnits R k n Q 17 ls st h := z_jr bX5_setUnits_17 bX5_setUnits_17_ok hr g
theorem dX5_setUnits_21 : decode cX5_setUnits 21 = .ok (.putfield 77, 3) := by decide +kernel
theorem iX5_setUnits_21 (hh : h r = some (a, .inr (5, fs))) (hl : Nat.blt 4 fs.length = true) (g : z_J Z mX5_setUnits R k n Q 24 ls st (z_u h r (a, .inr (5, fs.set 4 (.int x))))) : z_J Z mX5_setUnits R k n Q 21 ls ((.int x) :: .ref a :: st) h := z_put dX5_setUnits_21 rfl fl_X5_77 fw_X4_4 rfl hh rfl rfl (by simpa [Nat.blt_eq] using hl) g
def bX5_setUnits_24 : zB := [(24, .iload 4, 26, nI 0)]
theorem bX5_setUnits_24_ok : z_ok cX5_setUnits 24 bX5_setUnits_24 26 = true := by decide +kernel
theorem iX5_setUnits_24 (hr : z_run 5 bX5_setUnits_24 ls st = some (ls', st')) (g : z_J Z mX5_setUnits R k n Q 26 ls' st' h) : z_J Z mX5_setUnits R k n Q 24 ls st h := z_jr bX5_setUnits_24 bX5_setUnits_24_ok hr g
theorem dX5_setUnits_26 : decode cX5_setUnits 26 = .ok (.ireturn, 1) := by decide +kernel
theorem iX5_setUnits_26 (hk : k ≤ R.cells) (hs : n ≤ R.slots) (hq : Q (.inl (some (.int x))) h) : z_J Z mX5_setUnits R k n Q 26 ls [.int x] h := z_iret (ty := .int) dX5_setUnits_26 rfl rfl hk hs hq
/-! X5_rights -/
def bX5_rights_0 : zB := [(0, .aload_n 0, 1, nI 0)]
theorem bX5_rights_0_ok : z_ok cX5_rights 0 bX5_rights_0 1 = true := by decide +kernel
theorem iX5_rights_0 (hr : z_run 1 bX5_rights_0 ls st = some (ls', st')) (g : z_J Z mX5_rights R k n Q 1 ls' st' h) : z_J Z mX5_rights R k n Q 0 ls st h := z_jr bX5_rights_0 bX5_rights_0_ok hr g
theorem dX5_rights_1 : decode cX5_rights 1 = .ok (.getfield 12, 3) := by decide +kernel
theorem iX5_rights_1 (hh : h r = some (a, .inr (6, fs))) (hv : fs[0]? = some v) (g : z_J Z mX5_rights R k n Q 4 ls (v :: st) h) : z_J Z mX5_rights R k n Q 1 ls (.ref a :: st) h := z_get dX5_rights_1 rfl fl_X5_12 hh hv g
theorem dX5_rights_4 : decode cX5_rights 4 = .ok (.invokevirtual 47, 3) := by decide +kernel
theorem iX5_rights_4 (ha : z_args 0 st [] = some (As, .ref b :: rest)) (hc : z_chk rest (.ref b :: As) 1 = true) (hh : h r = some (b, .inr (0, fs))) (hR : z_rm R R' 1 k n) (gc : z_J Z mJx4a65c_size_8abf5 R' 0 0 Q' 0 (.ref b :: As) [] h) (kr : ∀ (v : Option Value) (h' : zH), Q' (.inl v) h' → z_J Z mX5_rights R (k + R'.cells) (n + R'.slots) Q 7 ls (v.toList ++ rest) h') (kx : ∀ (E : String) (h' : zH), Q' (.inr E) h' → z_JX Z mX5_rights R (k + R'.cells) (n + R'.slots) Q 4 ls E h') : z_J Z mX5_rights R k n Q 4 ls st h := z_callV (M' := mJx4a65c_size_8abf5) dX5_rights_4 rfl cs_X5_47 rfl gw183 gw184 ha hh (ci := 0) rfl hR (z_chk1 hc) (z_chk2 hc) (z_chk3 hc) gc kr kx
theorem dX5_rights_7 : decode cX5_rights 7 = .ok (.ireturn, 1) := by decide +kernel
theorem iX5_rights_7 (hk : k ≤ R.cells) (hs : n ≤ R.slots) (hq : Q (.inl (some (.int x))) h) : z_J Z mX5_rights R k n Q 7 ls [.int x] h := z_iret (ty := .int) dX5_rights_7 rfl rfl hk hs hq
/-! X5_addMachine -/
def bX5_addMachine_0 : zB := [(0, .iload_n 2, 1, nI 0), (1, .iconst (-1), 2, -1)]
theorem bX5_addMachine_0_ok : z_ok cX5_addMachine 0 bX5_addMachine_0 2 = true := by decide +kernel
theorem iX5_addMachine_0 (hr : z_run 4 bX5_addMachine_0 ls st = some (ls', st')) (g : z_J Z mX5_addMachine R k n Q 2 ls' st' h) : z_J Z mX5_addMachine R k n Q 0 ls st h := z_jr bX5_addMachine_0 bX5_addMachine_0_ok hr g
theorem dX5_addMachine_2 : decode cX5_addMachine 2 = .ok (.if_icmp .ne 7, 3) := by decide +kernel
theorem iX5_addMachine_2 (kt : ¬ x = y → z_J Z mX5_addMachine R k n Q 9 ls st h) (kf : x = y → z_J Z mX5_addMachine R k n Q 5 ls st h) : z_J Z mX5_addMachine R k n Q 2 ls (.int y :: .int x :: st) h := z_ic_ne dX5_addMachine_2 (tgt := 9) (by decide) rfl kt kf
def bX5_addMachine_5 : zB := [(5, .aconst_null, 6, nI 0), (6, .goto 8, 14, nI 0)]
theorem bX5_addMachine_5_ok : z_ok cX5_addMachine 5 bX5_addMachine_5 14 = true := by decide +kernel
theorem iX5_addMachine_5 (hr : z_run 4 bX5_addMachine_5 ls st = some (ls', st')) (g : z_J Z mX5_addMachine R k n Q 14 ls' st' h) : z_J Z mX5_addMachine R k n Q 5 ls st h := z_jr bX5_addMachine_5 bX5_addMachine_5_ok hr g
def bX5_addMachine_9 : zB := [(9, .aload_n 0, 10, nI 0), (10, .iload_n 2, 11, nI 0)]
theorem bX5_addMachine_9_ok : z_ok cX5_addMachine 9 bX5_addMachine_9 11 = true := by decide +kernel
theorem iX5_addMachine_9 (hr : z_run 4 bX5_addMachine_9 ls st = some (ls', st')) (g : z_J Z mX5_addMachine R k n Q 11 ls' st' h) : z_J Z mX5_addMachine R k n Q 9 ls st h := z_jr bX5_addMachine_9 bX5_addMachine_9_ok hr g
theorem dX5_addMachine_11 : decode cX5_addMachine 11 = .ok (.invokevirtual 80, 3) := by decide +kernel
theorem iX5_addMachine_11 (ha : z_args 1 st [] = some (As, .ref b :: rest)) (hc : z_chk rest (.ref b :: As) 2 = true) (hh : h r = some (b, .inr (6, fs))) (hR : z_rm R R' 2 k n) (gc : z_J Z mX5_machineOf R' 0 0 Q' 0 (.ref b :: As) [] h) (kr : ∀ (v : Option Value) (h' : zH), Q' (.inl v) h' → z_J Z mX5_addMachine R (k + R'.cells) (n + R'.slots) Q 14 ls (v.toList ++ rest) h') (kx : ∀ (E : String) (h' : zH), Q' (.inr E) h' → z_JX Z mX5_addMachine R (k + R'.cells) (n + R'.slots) Q 11 ls E h') : z_J Z mX5_addMachine R k n Q 11 ls st h := z_callV (M' := mX5_machineOf) dX5_addMachine_11 rfl cs_X5_80 rfl gw427 gwp5 ha hh (ci := 6) rfl hR (z_chk1 hc) (z_chk2 hc) (z_chk3 hc) gc kr kx
def bX5_addMachine_14 : zB := [(14, .astore_n 3, 15, nI 0), (15, .iload_n 1, 16, nI 0), (16, .iconst 1, 17, nI 1), (17, .bipush 64, 19, nI 64)]
theorem bX5_addMachine_14_ok : z_ok cX5_addMachine 14 bX5_addMachine_14 19 = true := by decide +kernel
theorem iX5_addMachine_14 (hr : z_run 4 bX5_addMachine_14 ls st = some (ls', st')) (g : z_J Z mX5_addMachine R k n Q 19 ls' st' h) : z_J Z mX5_addMachine R k n Q 14 ls st h := z_jr bX5_addMachine_14 bX5_addMachine_14_ok hr g
theorem dX5_addMachine_19 : decode cX5_addMachine 19 = .ok (.invokestatic 43, 3) := by decide +kernel
theorem iX5_addMachine_19 (ha : z_args 3 st [] = some (As, rest)) (hc : z_chk rest As 3 = true) (hR : z_rm R R' 3 k n) (gc : z_J Z mX5_checkArgument R' 0 0 Q' 0 As [] h) (kr : ∀ (v : Option Value) (h' : zH), Q' (.inl v) h' → z_J Z mX5_addMachine R (k + R'.cells) (n + R'.slots) Q 22 ls (v.toList ++ rest) h') (kx : ∀ (E : String) (h' : zH), Q' (.inr E) h' → z_JX Z mX5_addMachine R (k + R'.cells) (n + R'.slots) Q 19 ls E h') : z_J Z mX5_addMachine R k n Q 19 ls st h := z_callS (M' := mX5_checkArgument) dX5_addMachine_19 rfl cs_X5_43 gw200 ha hR (z_chk1 hc) (z_chk2 hc) (z_chk3 hc) gc kr kx
def bX5_addMachine_22 : zB := [(22, .aload_n 0, 23, nI 0)]
theorem bX5_addMachine_22_ok : z_ok cX5_addMachine 22 bX5_addMachine_22 23 = true := by decide +kernel
theorem iX5_addMachine_22 (hr : z_run 4 bX5_addMachine_22 ls st = some (ls', st')) (g : z_J Z mX5_addMachine R k n Q 23 ls' st' h) : z_J Z mX5_addMachine R k n Q 22 ls st h := z_jr bX5_addMachine_22 bX5_addMachine_22_ok hr g
theorem dX5_addMachine_23 : decode cX5_addMachine 23 = .ok (.getfield 16, 3) := by decide +kernel
theorem iX5_addMachine_23 (hh : h r = some (a, .inr (6, fs))) (hv : fs[1]? = some v) (g : z_J Z mX5_addMachine R k n Q 26 ls (v :: st) h) : z_J Z mX5_addMachine R k n Q 23 ls (.ref a :: st) h := z_get dX5_addMachine_23 rfl fl_X5_16 hh hv g
theorem dX5_addMachine_26 : decode cX5_addMachine 26 = .ok (.invokevirtual 47, 3) := by decide +kernel
theorem iX5_addMachine_26 (ha : z_args 0 st [] = some (As, .ref b :: rest)) (hc : z_chk rest (.ref b :: As) 1 = true) (hh : h r = some (b, .inr (0, fs))) (hR : z_rm R R' 1 k n) (gc : z_J Z mJx4a65c_size_8abf5 R' 0 0 Q' 0 (.ref b :: As) [] h) (kr : ∀ (v : Option Value) (h' : zH), Q' (.inl v) h' → z_J Z mX5_addMachine R (k + R'.cells) (n + R'.slots) Q 29 ls (v.toList ++ rest) h') (kx : ∀ (E : String) (h' : zH), Q' (.inr E) h' → z_JX Z mX5_addMachine R (k + R'.cells) (n + R'.slots) Q 26 ls E h') : z_J Z mX5_addMachine R k n Q 26 ls st h := z_callV (M' := mJx4a65c_size_8abf5) dX5_addMachine_26 rfl cs_X5_47 rfl gw183 gw184 ha hh (ci := 0) rfl hR (z_chk1 hc) (z_chk2 hc) (z_chk3 hc) gc kr kx
def bX5_addMachine_29 : zB := [(29, .bipush 8, 31, nI 8)]
theorem bX5_addMachine_29_ok : z_ok cX5_addMachine 29 bX5_addMachine_29 31 = true := by decide +kernel
theorem iX5_addMachine_29 (hr : z_run 4 bX5_addMachine_29 ls st = some (ls', st')) (g : z_J Z mX5_addMachine R k n Q 31 ls' st' h) : z_J Z mX5_addMachine R k n Q 29 ls st h := z_jr bX5_addMachine_29 bX5_addMachine_29_ok hr g
theorem dX5_addMachine_31 : decode cX5_addMachine 31 = .ok (.if_icmp .lt 13, 3) := by decide +kernel
theorem iX5_addMachine_31 (kt : x < y → z_J Z mX5_addMachine R k n Q 44 ls st h) (kf : ¬ x < y → z_J Z mX5_addMachine R k n Q 34 ls st h) : z_J Z mX5_addMachine R k n Q 31 ls (.int y :: .int x :: st) h := z_ic_lt dX5_addMachine_31 (tgt := 44) (by decide) rfl kt kf
theorem dX5_addMachine_34 : decode cX5_addMachine 34 = .ok (.new 51, 3) := by decide +kernel
theorem dX5_addMachine_37 : decode cX5_addMachine 37 = .ok (.dup, 1) := by decide +kernel
theorem dX5_addMachine_38 : decode cX5_addMachine 38 = .ok (.ldc 84, 2) := by decide +kernel
theorem dX5_addMachine_40 : decode cX5_addMachine 40 = .ok (.invokespecial 55, 3) := by decide +kernel
theorem dX5_addMachine_43 : decode cX5_addMachine 43 = .ok (.athrow, 1) := by decide +kernel
theorem iX5_addMachine_34 (hRf : 5 < R.frames) (hRl : (st.map fun v => v.category).sum + 82 ≤ R.locals) (hRc : k + 1 ≤ R.cells) (hRs : n + 6 ≤ R.slots) (hq : Q (.inr "java/lang/IllegalStateException") h) : z_J Z mX5_addMachine R k n Q 34 ls st h := z_throw (names := ["java/lang/RuntimeException", "java/lang/Exception"]) (text := "there are 8 machines") rfl dX5_addMachine_34 dX5_addMachine_37 dX5_addMachine_38 dX5_addMachine_40 dX5_addMachine_43 (by decide +kernel) (by decide +kernel) gw270 gw44 (by decide +kernel) at_X5_55 at_X5_55_g hRf hRl hRc hRs hq
def bX5_addMachine_44 : zB := [(44, .aload_n 0, 45, nI 0)]
theorem bX5_addMachine_44_ok : z_ok cX5_addMachine 44 bX5_addMachine_44 45 = true := by decide +kernel
theorem iX5_addMachine_44 (hr : z_run 4 bX5_addMachine_44 ls st = some (ls', st')) (g : z_J Z mX5_addMachine R k n Q 45 ls' st' h) : z_J Z mX5_addMachine R k n Q 44 ls st h := z_jr bX5_addMachine_44 bX5_addMachine_44_ok hr g
theorem dX5_addMachine_45 : decode cX5_addMachine 45 = .ok (.getfield 16, 3) := by decide +kernel
theorem iX5_addMachine_45 (hh : h r = some (a, .inr (6, fs))) (hv : fs[1]? = some v) (g : z_J Z mX5_addMachine R k n Q 48 ls (v :: st) h) : z_J Z mX5_addMachine R k n Q 45 ls (.ref a :: st) h := z_get dX5_addMachine_45 rfl fl_X5_16 hh hv g
theorem dX5_addMachine_48 : decode cX5_addMachine 48 = .ok (.new 86, 3) := by decide +kernel
theorem iX5_addMachine_48 (r : Nat) (hR : k + 1 ≤ R.cells ∧ n + 5 ≤ R.slots) (g : ∀ q, z_J Z mX5_addMachine R (k + 1) (n + 5) Q 51 ls (.ref q :: st) (z_u h r (q, .inr (3, [.int 0, .null, .null, .int 0, .int 0])))) : z_J Z mX5_addMachine R k n Q 48 ls st h := z_new r (ty := tyX2) dX5_addMachine_48 rfl (ci := 3) rfl inG_X2 tyX2_ok gw430 gw432 gw52 (by decide +kernel) hR g
def bX5_addMachine_51 : zB := [(51, .dup, 52, nI 0), (52, .aload_n 0, 53, nI 0)]
theorem bX5_addMachine_51_ok : z_ok cX5_addMachine 51 bX5_addMachine_51 53 = true := by decide +kernel
theorem iX5_addMachine_51 (hr : z_run 4 bX5_addMachine_51 ls st = some (ls', st')) (g : z_J Z mX5_addMachine R k n Q 53 ls' st' h) : z_J Z mX5_addMachine R k n Q 51 ls st h := z_jr bX5_addMachine_51 bX5_addMachine_51_ok hr g
theorem dX5_addMachine_53 : decode cX5_addMachine 53 = .ok (.getfield 16, 3) := by decide +kernel
theorem iX5_addMachine_53 (hh : h r = some (a, .inr (6, fs))) (hv : fs[1]? = some v) (g : z_J Z mX5_addMachine R k n Q 56 ls (v :: st) h) : z_J Z mX5_addMachine R k n Q 53 ls (.ref a :: st) h := z_get dX5_addMachine_53 rfl fl_X5_16 hh hv g
theorem dX5_addMachine_56 : decode cX5_addMachine 56 = .ok (.invokevirtual 47, 3) := by decide +kernel
theorem iX5_addMachine_56 (ha : z_args 0 st [] = some (As, .ref b :: rest)) (hc : z_chk rest (.ref b :: As) 1 = true) (hh : h r = some (b, .inr (0, fs))) (hR : z_rm R R' 1 k n) (gc : z_J Z mJx4a65c_size_8abf5 R' 0 0 Q' 0 (.ref b :: As) [] h) (kr : ∀ (v : Option Value) (h' : zH), Q' (.inl v) h' → z_J Z mX5_addMachine R (k + R'.cells) (n + R'.slots) Q 59 ls (v.toList ++ rest) h') (kx : ∀ (E : String) (h' : zH), Q' (.inr E) h' → z_JX Z mX5_addMachine R (k + R'.cells) (n + R'.slots) Q 56 ls E h') : z_J Z mX5_addMachine R k n Q 56 ls st h := z_callV (M' := mJx4a65c_size_8abf5) dX5_addMachine_56 rfl cs_X5_47 rfl gw183 gw184 ha hh (ci := 0) rfl hR (z_chk1 hc) (z_chk2 hc) (z_chk3 hc) gc kr kx
def bX5_addMachine_59 : zB := [(59, .iload_n 1, 60, nI 0), (60, .aload_n 3, 61, nI 0)]
theorem bX5_addMachine_59_ok : z_ok cX5_addMachine 59 bX5_addMachine_59 61 = true := by decide +kernel
theorem iX5_addMachine_59 (hr : z_run 4 bX5_addMachine_59 ls st = some (ls', st')) (g : z_J Z mX5_addMachine R k n Q 61 ls' st' h) : z_J Z mX5_addMachine R k n Q 59 ls st h := z_jr bX5_addMachine_59 bX5_addMachine_59_ok hr g
theorem dX5_addMachine_61 : decode cX5_addMachine 61 = .ok (.invokespecial 88, 3) := by decide +kernel
theorem iX5_addMachine_61 (ha : z_args 3 st [] = some (As, .ref b :: rest)) (hc : z_chk rest (.ref b :: As) 5 = true) (hR : z_rm R R' 5 k n) (hq : ∀ E h', ¬ Q' (.inr E) h') (gc : z_J Z mX2_init R' 0 0 Q' 0 (.ref b :: As) [] h) (kr : ∀ (v : Option Value) (h' : zH), Q' (.inl v) h' → z_J Z mX5_addMachine R (k + R'.cells) (n + R'.slots) Q 64 ls (v.toList ++ rest) h') : z_J Z mX5_addMachine R k n Q 61 ls st h := z_callI (M' := mX2_init) dX5_addMachine_61 rfl cs_X5_88 rfl rfl gw434 rfl ha hR (z_chk1 hc) (z_chk2 hc) (z_chk3 hc) hq gc kr
theorem dX5_addMachine_64 : decode cX5_addMachine 64 = .ok (.invokevirtual 63, 3) := by decide +kernel
theorem iX5_addMachine_64 (ha : z_args 1 st [] = some (As, .ref b :: rest)) (hc : z_chk rest (.ref b :: As) 2 = true) (hh : h r = some (b, .inr (0, fs))) (hR : z_rm R R' 2 k n) (gc : z_J Z mJx4a65c_add_9ea2d R' 0 0 Q' 0 (.ref b :: As) [] h) (kr : ∀ (v : Option Value) (h' : zH), Q' (.inl v) h' → z_J Z mX5_addMachine R (k + R'.cells) (n + R'.slots) Q 67 ls (v.toList ++ rest) h') (kx : ∀ (E : String) (h' : zH), Q' (.inr E) h' → z_JX Z mX5_addMachine R (k + R'.cells) (n + R'.slots) Q 64 ls E h') : z_J Z mX5_addMachine R k n Q 64 ls st h := z_callV (M' := mJx4a65c_add_9ea2d) dX5_addMachine_64 rfl cs_X5_63 rfl gw311 gw312 ha hh (ci := 0) rfl hR (z_chk1 hc) (z_chk2 hc) (z_chk3 hc) gc kr kx
def bX5_addMachine_67 : zB := [(67, .pop, 68, nI 0), (68, .aload_n 0, 69, nI 0)]
theorem bX5_addMachine_67_ok : z_ok cX5_addMachine 67 bX5_addMachine_67 69 = true := by decide +kernel
theorem iX5_addMachine_67 (hr : z_run 4 bX5_addMachine_67 ls st = some (ls', st')) (g : z_J Z mX5_addMachine R k n Q 69 ls' st' h) : z_J Z mX5_addMachine R k n Q 67 ls st h := z_jr bX5_addMachine_67 bX5_addMachine_67_ok hr g
theorem dX5_addMachine_69 : decode cX5_addMachine 69 = .ok (.getfield 16, 3) := by decide +kernel
theorem iX5_addMachine_69 (hh : h r = some (a, .inr (6, fs))) (hv : fs[1]? = some v) (g : z_J Z mX5_addMachine R k n Q 72 ls (v :: st) h) : z_J Z mX5_addMachine R k n Q 69 ls (.ref a :: st) h := z_get dX5_addMachine_69 rfl fl_X5_16 hh hv g
theorem dX5_addMachine_72 : decode cX5_addMachine 72 = .ok (.invokevirtual 47, 3) := by decide +kernel
theorem iX5_addMachine_72 (ha : z_args 0 st [] = some (As, .ref b :: rest)) (hc : z_chk rest (.ref b :: As) 1 = true) (hh : h r = some (b, .inr (0, fs))) (hR : z_rm R R' 1 k n) (gc : z_J Z mJx4a65c_size_8abf5 R' 0 0 Q' 0 (.ref b :: As) [] h) (kr : ∀ (v : Option Value) (h' : zH), Q' (.inl v) h' → z_J Z mX5_addMachine R (k + R'.cells) (n + R'.slots) Q 75 ls (v.toList ++ rest) h') (kx : ∀ (E : String) (h' : zH), Q' (.inr E) h' → z_JX Z mX5_addMachine R (k + R'.cells) (n + R'.slots) Q 72 ls E h') : z_J Z mX5_addMachine R k n Q 72 ls st h := z_callV (M' := mJx4a65c_size_8abf5) dX5_addMachine_72 rfl cs_X5_47 rfl gw183 gw184 ha hh (ci := 0) rfl hR (z_chk1 hc) (z_chk2 hc) (z_chk3 hc) gc kr kx
def bX5_addMachine_75 : zB := [(75, .iconst 1, 76, nI 1), (76, .isub, 77, nI 0)]
theorem bX5_addMachine_75_ok : z_ok cX5_addMachine 75 bX5_addMachine_75 77 = true := by decide +kernel
theorem iX5_addMachine_75 (hr : z_run 4 bX5_addMachine_75 ls st = some (ls', st')) (g : z_J Z mX5_addMachine R k n Q 77 ls' st' h) : z_J Z mX5_addMachine R k n Q 75 ls st h := z_jr bX5_addMachine_75 bX5_addMachine_75_ok hr g
theorem dX5_addMachine_77 : decode cX5_addMachine 77 = .ok (.ireturn, 1) := by decide +kernel
theorem iX5_addMachine_77 (hk : k ≤ R.cells) (hs : n ≤ R.slots) (hq : Q (.inl (some (.int x))) h) : z_J Z mX5_addMachine R k n Q 77 ls [.int x] h := z_iret (ty := .int) dX5_addMachine_77 rfl rfl hk hs hq
/-! X5_setCores -/
def bX5_setCores_0 : zB := [(0, .aload_n 0, 1, nI 0), (1, .iload_n 1, 2, nI 0)]
theorem bX5_setCores_0_ok : z_ok cX5_setCores 0 bX5_setCores_0 2 = true := by decide +kernel
theorem iX5_setCores_0 (hr : z_run 5 bX5_setCores_0 ls st = some (ls', st')) (g : z_J Z mX5_setCores R k n Q 2 ls' st' h) : z_J Z mX5_setCores R k n Q 0 ls st h := z_jr bX5_setCores_0 bX5_setCores_0_ok hr g
theorem dX5_setCores_2 : decode cX5_setCores 2 = .ok (.invokevirtual 80, 3) := by decide +kernel
theorem iX5_setCores_2 (ha : z_args 1 st [] = some (As, .ref b :: rest)) (hc : z_chk rest (.ref b :: As) 2 = true) (hh : h r = some (b, .inr (6, fs))) (hR : z_rm R R' 2 k n) (gc : z_J Z mX5_machineOf R' 0 0 Q' 0 (.ref b :: As) [] h) (kr : ∀ (v : Option Value) (h' : zH), Q' (.inl v) h' → z_J Z mX5_setCores R (k + R'.cells) (n + R'.slots) Q 5 ls (v.toList ++ rest) h') (kx : ∀ (E : String) (h' : zH), Q' (.inr E) h' → z_JX Z mX5_setCores R (k + R'.cells) (n + R'.slots) Q 2 ls E h') : z_J Z mX5_setCores R k n Q 2 ls st h := z_callV (M' := mX5_machineOf) dX5_setCores_2 rfl cs_X5_80 rfl gw427 gwp5 ha hh (ci := 6) rfl hR (z_chk1 hc) (z_chk2 hc) (z_chk3 hc) gc kr kx
def bX5_setCores_5 : zB := [(5, .astore_n 3, 6, nI 0), (6, .iload_n 2, 7, nI 0), (7, .iconst 1, 8, nI 1), (8, .bipush 64, 10, nI 64)]
theorem bX5_setCores_5_ok : z_ok cX5_setCores 5 bX5_setCores_5 10 = true := by decide +kernel
theorem iX5_setCores_5 (hr : z_run 5 bX5_setCores_5 ls st = some (ls', st')) (g : z_J Z mX5_setCores R k n Q 10 ls' st' h) : z_J Z mX5_setCores R k n Q 5 ls st h := z_jr bX5_setCores_5 bX5_setCores_5_ok hr g
theorem dX5_setCores_10 : decode cX5_setCores 10 = .ok (.invokestatic 43, 3) := by decide +kernel
theorem iX5_setCores_10 (ha : z_args 3 st [] = some (As, rest)) (hc : z_chk rest As 3 = true) (hR : z_rm R R' 3 k n) (gc : z_J Z mX5_checkArgument R' 0 0 Q' 0 As [] h) (kr : ∀ (v : Option Value) (h' : zH), Q' (.inl v) h' → z_J Z mX5_setCores R (k + R'.cells) (n + R'.slots) Q 13 ls (v.toList ++ rest) h') (kx : ∀ (E : String) (h' : zH), Q' (.inr E) h' → z_JX Z mX5_setCores R (k + R'.cells) (n + R'.slots) Q 10 ls E h') : z_J Z mX5_setCores R k n Q 10 ls st h := z_callS (M' := mX5_checkArgument) dX5_setCores_10 rfl cs_X5_43 gw200 ha hR (z_chk1 hc) (z_chk2 hc) (z_chk3 hc) gc kr kx
def bX5_setCores_13 : zB := [(13, .aload_n 3, 14, nI 0)]
theorem bX5_setCores_13_ok : z_ok cX5_setCores 13 bX5_setCores_13 14 = true := by decide +kernel
theorem iX5_setCores_13 (hr : z_run 5 bX5_setCores_13 ls st = some (ls', st')) (g : z_J Z mX5_setCores R k n Q 14 ls' st' h) : z_J Z mX5_setCores R k n Q 13 ls st h := z_jr bX5_setCores_13 bX5_setCores_13_ok hr g
theorem dX5_setCores_14 : decode cX5_setCores 14 = .ok (.getfield 91, 3) := by decide +kernel
theorem iX5_setCores_14 (hh : h r = some (a, .inr (3, fs))) (hv : fs[3]? = some v) (g : z_J Z mX5_setCores R k n Q 17 ls (v :: st) h) : z_J Z mX5_setCores R k n Q 14 ls (.ref a :: st) h := z_get dX5_setCores_14 rfl fl_X5_91 hh hv g
def bX5_setCores_17 : zB := [(17, .istore 4, 19, nI 0), (19, .aload_n 3, 20, nI 0), (20, .iload_n 2, 21, nI 0)]
theorem bX5_setCores_17_ok : z_ok cX5_setCores 17 bX5_setCores_17 21 = true := by decide +kernel
theorem iX5_setCores_17 (hr : z_run 5 bX5_setCores_17 ls st = some (ls', st')) (g : z_J Z mX5_setCores R k n Q 21 ls' st' h) : z_J Z mX5_setCores R k n Q 17 ls st h := z_jr bX5_setCores_17 bX5_setCores_17_ok hr g
theorem dX5_setCores_21 : decode cX5_setCores 21 = .ok (.putfield 91, 3) := by decide +kernel
theorem iX5_setCores_21 (hh : h r = some (a, .inr (3, fs))) (hl : Nat.blt 3 fs.length = true) (g : z_J Z mX5_setCores R k n Q 24 ls st (z_u h r (a, .inr (3, fs.set 3 (.int x))))) : z_J Z mX5_setCores R k n Q 21 ls ((.int x) :: .ref a :: st) h := z_put dX5_setCores_21 rfl fl_X5_91 fw_X2_3 rfl hh rfl rfl (by simpa [Nat.blt_eq] using hl) g
def bX5_setCores_24 : zB := [(24, .iload 4, 26, nI 0)]
theorem bX5_setCores_24_ok : z_ok cX5_setCores 24 bX5_setCores_24 26 = true := by decide +kernel
theorem iX5_setCores_24 (hr : z_run 5 bX5_setCores_24 ls st = some (ls', st')) (g : z_J Z mX5_setCores R k n Q 26 ls' st' h) : z_J Z mX5_setCores R k n Q 24 ls st h := z_jr bX5_setCores_24 bX5_setCores_24_ok hr g
theorem dX5_setCores_26 : decode cX5_setCores 26 = .ok (.ireturn, 1) := by decide +kernel
theorem iX5_setCores_26 (hk : k ≤ R.cells) (hs : n ≤ R.slots) (hq : Q (.inl (some (.int x))) h) : z_J Z mX5_setCores R k n Q 26 ls [.int x] h := z_iret (ty := .int) dX5_setCores_26 rfl rfl hk hs hq
/-! X5_tellApart -/
def bX5_tellApart_0 : zB := [(0, .aload_n 0, 1, nI 0), (1, .iload_n 1, 2, nI 0)]
theorem bX5_tellApart_0_ok : z_ok cX5_tellApart 0 bX5_tellApart_0 2 = true := by decide +kernel
theorem iX5_tellApart_0 (hr : z_run 4 bX5_tellApart_0 ls st = some (ls', st')) (g : z_J Z mX5_tellApart R k n Q 2 ls' st' h) : z_J Z mX5_tellApart R k n Q 0 ls st h := z_jr bX5_tellApart_0 bX5_tellApart_0_ok hr g
theorem dX5_tellApart_2 : decode cX5_tellApart 2 = .ok (.invokevirtual 80, 3) := by decide +kernel
theorem iX5_tellApart_2 (ha : z_args 1 st [] = some (As, .ref b :: rest)) (hc : z_chk rest (.ref b :: As) 2 = true) (hh : h r = some (b, .inr (6, fs))) (hR : z_rm R R' 2 k n) (gc : z_J Z mX5_machineOf R' 0 0 Q' 0 (.ref b :: As) [] h) (kr : ∀ (v : Option Value) (h' : zH), Q' (.inl v) h' → z_J Z mX5_tellApart R (k + R'.cells) (n + R'.slots) Q 5 ls (v.toList ++ rest) h') (kx : ∀ (E : String) (h' : zH), Q' (.inr E) h' → z_JX Z mX5_tellApart R (k + R'.cells) (n + R'.slots) Q 2 ls E h') : z_J Z mX5_tellApart R k n Q 2 ls st h := z_callV (M' := mX5_machineOf) dX5_tellApart_2 rfl cs_X5_80 rfl gw427 gwp5 ha hh (ci := 6) rfl hR (z_chk1 hc) (z_chk2 hc) (z_chk3 hc) gc kr kx
def bX5_tellApart_5 : zB := [(5, .astore_n 3, 6, nI 0), (6, .aload_n 3, 7, nI 0), (7, .iload_n 2, 8, nI 0)]
theorem bX5_tellApart_5_ok : z_ok cX5_tellApart 5 bX5_tellApart_5 8 = true := by decide +kernel
theorem iX5_tellApart_5 (hr : z_run 4 bX5_tellApart_5 ls st = some (ls', st')) (g : z_J Z mX5_tellApart R k n Q 8 ls' st' h) : z_J Z mX5_tellApart R k n Q 5 ls st h := z_jr bX5_tellApart_5 bX5_tellApart_5_ok hr g
theorem dX5_tellApart_8 : decode cX5_tellApart 8 = .ok (.putfield 94, 3) := by decide +kernel
theorem iX5_tellApart_8 (hh : h r = some (a, .inr (3, fs))) (hz : narrow .boolean (.int x) = .int x) (hz2 : fits .boolean (.int x) = true) (hl : Nat.blt 4 fs.length = true) (g : z_J Z mX5_tellApart R k n Q 11 ls st (z_u h r (a, .inr (3, fs.set 4 (.int x))))) : z_J Z mX5_tellApart R k n Q 8 ls ((.int x) :: .ref a :: st) h := z_put dX5_tellApart_8 rfl fl_X5_94 fw_X2_4 rfl hh hz hz2 (by simpa [Nat.blt_eq] using hl) g
def bX5_tellApart_11 : zB := [(11, .aload_n 3, 12, nI 0)]
theorem bX5_tellApart_11_ok : z_ok cX5_tellApart 11 bX5_tellApart_11 12 = true := by decide +kernel
theorem iX5_tellApart_11 (hr : z_run 4 bX5_tellApart_11 ls st = some (ls', st')) (g : z_J Z mX5_tellApart R k n Q 12 ls' st' h) : z_J Z mX5_tellApart R k n Q 11 ls st h := z_jr bX5_tellApart_11 bX5_tellApart_11_ok hr g
theorem dX5_tellApart_12 : decode cX5_tellApart 12 = .ok (.invokevirtual 98, 3) := by decide +kernel
theorem iX5_tellApart_12 (ha : z_args 0 st [] = some (As, .ref b :: rest)) (hc : z_chk rest (.ref b :: As) 2 = true) (hh : h r = some (b, .inr (3, fs))) (hR : z_rm R R' 2 k n) (gc : z_J Z mX2_countsBy R' 0 0 Q' 0 (.ref b :: As) [] h) (kr : ∀ (v : Option Value) (h' : zH), Q' (.inl v) h' → z_J Z mX5_tellApart R (k + R'.cells) (n + R'.slots) Q 15 ls (v.toList ++ rest) h') (kx : ∀ (E : String) (h' : zH), Q' (.inr E) h' → z_JX Z mX5_tellApart R (k + R'.cells) (n + R'.slots) Q 12 ls E h') : z_J Z mX5_tellApart R k n Q 12 ls st h := z_callV (M' := mX2_countsBy) dX5_tellApart_12 rfl cs_X5_98 rfl gw492 gw493 ha hh (ci := 3) rfl hR (z_chk1 hc) (z_chk2 hc) (z_chk3 hc) gc kr kx
theorem dX5_tellApart_15 : decode cX5_tellApart 15 = .ok (.ireturn, 1) := by decide +kernel
theorem iX5_tellApart_15 (hk : k ≤ R.cells) (hs : n ≤ R.slots) (hq : Q (.inl (some (.int x))) h) : z_J Z mX5_tellApart R k n Q 15 ls [.int x] h := z_iret (ty := .int) dX5_tellApart_15 rfl rfl hk hs hq
/-! X5_setCoresOfUnit -/
def bX5_setCoresOfUnit_0 : zB := [(0, .iload_n 1, 1, nI 0)]
theorem bX5_setCoresOfUnit_0_ok : z_ok cX5_setCoresOfUnit 0 bX5_setCoresOfUnit_0 1 = true := by decide +kernel
theorem iX5_setCoresOfUnit_0 (hr : z_run 4 bX5_setCoresOfUnit_0 ls st = some (ls', st')) (g : z_J Z mX5_setCoresOfUnit R k n Q 1 ls' st' h) : z_J Z mX5_setCoresOfUnit R k n Q 0 ls st h := z_jr bX5_setCoresOfUnit_0 bX5_setCoresOfUnit_0_ok hr g
theorem dX5_setCoresOfUnit_1 : decode cX5_setCoresOfUnit 1 = .ok (.invokestatic 101, 3) := by decide +kernel
theorem iX5_setCoresOfUnit_1 (ha : z_args 1 st [] = some (As, rest)) (hc : z_chk rest As 1 = true) (hR : z_rm R R' 1 k n) (gc : z_J Z mX5_checkProduct R' 0 0 Q' 0 As [] h) (kr : ∀ (v : Option Value) (h' : zH), Q' (.inl v) h' → z_J Z mX5_setCoresOfUnit R (k + R'.cells) (n + R'.slots) Q 4 ls (v.toList ++ rest) h') (kx : ∀ (E : String) (h' : zH), Q' (.inr E) h' → z_JX Z mX5_setCoresOfUnit R (k + R'.cells) (n + R'.slots) Q 1 ls E h') : z_J Z mX5_setCoresOfUnit R k n Q 1 ls st h := z_callS (M' := mX5_checkProduct) dX5_setCoresOfUnit_1 rfl cs_X5_101 gw503 ha hR (z_chk1 hc) (z_chk2 hc) (z_chk3 hc) gc kr kx
def bX5_setCoresOfUnit_4 : zB := [(4, .iload_n 2, 5, nI 0), (5, .iconst 1, 6, nI 1), (6, .bipush 16, 8, nI 16)]
theorem bX5_setCoresOfUnit_4_ok : z_ok cX5_setCoresOfUnit 4 bX5_setCoresOfUnit_4 8 = true := by decide +kernel
theorem iX5_setCoresOfUnit_4 (hr : z_run 4 bX5_setCoresOfUnit_4 ls st = some (ls', st')) (g : z_J Z mX5_setCoresOfUnit R k n Q 8 ls' st' h) : z_J Z mX5_setCoresOfUnit R k n Q 4 ls st h := z_jr bX5_setCoresOfUnit_4 bX5_setCoresOfUnit_4_ok hr g
theorem dX5_setCoresOfUnit_8 : decode cX5_setCoresOfUnit 8 = .ok (.invokestatic 43, 3) := by decide +kernel
theorem iX5_setCoresOfUnit_8 (ha : z_args 3 st [] = some (As, rest)) (hc : z_chk rest As 3 = true) (hR : z_rm R R' 3 k n) (gc : z_J Z mX5_checkArgument R' 0 0 Q' 0 As [] h) (kr : ∀ (v : Option Value) (h' : zH), Q' (.inl v) h' → z_J Z mX5_setCoresOfUnit R (k + R'.cells) (n + R'.slots) Q 11 ls (v.toList ++ rest) h') (kx : ∀ (E : String) (h' : zH), Q' (.inr E) h' → z_JX Z mX5_setCoresOfUnit R (k + R'.cells) (n + R'.slots) Q 8 ls E h') : z_J Z mX5_setCoresOfUnit R k n Q 8 ls st h := z_callS (M' := mX5_checkArgument) dX5_setCoresOfUnit_8 rfl cs_X5_43 gw200 ha hR (z_chk1 hc) (z_chk2 hc) (z_chk3 hc) gc kr kx
def bX5_setCoresOfUnit_11 : zB := [(11, .aload_n 0, 12, nI 0)]
theorem bX5_setCoresOfUnit_11_ok : z_ok cX5_setCoresOfUnit 11 bX5_setCoresOfUnit_11 12 = true := by decide +kernel
theorem iX5_setCoresOfUnit_11 (hr : z_run 4 bX5_setCoresOfUnit_11 ls st = some (ls', st')) (g : z_J Z mX5_setCoresOfUnit R k n Q 12 ls' st' h) : z_J Z mX5_setCoresOfUnit R k n Q 11 ls st h := z_jr bX5_setCoresOfUnit_11 bX5_setCoresOfUnit_11_ok hr g
theorem dX5_setCoresOfUnit_12 : decode cX5_setCoresOfUnit 12 = .ok (.getfield 19, 3) := by decide +kernel
theorem iX5_setCoresOfUnit_12 (hh : h r = some (a, .inr (6, fs))) (hv : fs[2]? = some v) (g : z_J Z mX5_setCoresOfUnit R k n Q 15 ls (v :: st) h) : z_J Z mX5_setCoresOfUnit R k n Q 12 ls (.ref a :: st) h := z_get dX5_setCoresOfUnit_12 rfl fl_X5_19 hh hv g
def bX5_setCoresOfUnit_15 : zB := [(15, .iload_n 1, 16, nI 0)]
theorem bX5_setCoresOfUnit_15_ok : z_ok cX5_setCoresOfUnit 15 bX5_setCoresOfUnit_15 16 = true := by decide +kernel
theorem iX5_setCoresOfUnit_15 (hr : z_run 4 bX5_setCoresOfUnit_15 ls st = some (ls', st')) (g : z_J Z mX5_setCoresOfUnit R k n Q 16 ls' st' h) : z_J Z mX5_setCoresOfUnit R k n Q 15 ls st h := z_jr bX5_setCoresOfUnit_15 bX5_setCoresOfUnit_15_ok hr g
theorem dX5_setCoresOfUnit_16 : decode cX5_setCoresOfUnit 16 = .ok (.iaload, 1) := by decide +kernel
theorem iX5_setCoresOfUnit_16 {f : Nat → Int32} (hh : h r = some (a, .inl (0, N, .inl f))) (hi : i = nI j) (hj : j < N) (hN : N < 2 ^ 31) (g : z_J Z mX5_setCoresOfUnit R k n Q 17 ls (.int (f j) :: st) h) : z_J Z mX5_setCoresOfUnit R k n Q 16 ls (.int i :: .ref a :: st) h := z_iald dX5_setCoresOfUnit_16 rfl hh hi hj hN g
def bX5_setCoresOfUnit_17 : zB := [(17, .istore_n 3, 18, nI 0), (18, .aload_n 0, 19, nI 0)]
theorem bX5_setCoresOfUnit_17_ok : z_ok cX5_setCoresOfUnit 17 bX5_setCoresOfUnit_17 19 = true := by decide +kernel
theorem iX5_setCoresOfUnit_17 (hr : z_run 4 bX5_setCoresOfUnit_17 ls st = some (ls', st')) (g : z_J Z mX5_setCoresOfUnit R k n Q 19 ls' st' h) : z_J Z mX5_setCoresOfUnit R k n Q 17 ls st h := z_jr bX5_setCoresOfUnit_17 bX5_setCoresOfUnit_17_ok hr g
theorem dX5_setCoresOfUnit_19 : decode cX5_setCoresOfUnit 19 = .ok (.getfield 19, 3) := by decide +kernel
theorem iX5_setCoresOfUnit_19 (hh : h r = some (a, .inr (6, fs))) (hv : fs[2]? = some v) (g : z_J Z mX5_setCoresOfUnit R k n Q 22 ls (v :: st) h) : z_J Z mX5_setCoresOfUnit R k n Q 19 ls (.ref a :: st) h := z_get dX5_setCoresOfUnit_19 rfl fl_X5_19 hh hv g
def bX5_setCoresOfUnit_22 : zB := [(22, .iload_n 1, 23, nI 0), (23, .iload_n 2, 24, nI 0)]
theorem bX5_setCoresOfUnit_22_ok : z_ok cX5_setCoresOfUnit 22 bX5_setCoresOfUnit_22 24 = true := by decide +kernel
theorem iX5_setCoresOfUnit_22 (hr : z_run 4 bX5_setCoresOfUnit_22 ls st = some (ls', st')) (g : z_J Z mX5_setCoresOfUnit R k n Q 24 ls' st' h) : z_J Z mX5_setCoresOfUnit R k n Q 22 ls st h := z_jr bX5_setCoresOfUnit_22 bX5_setCoresOfUnit_22_ok hr g
theorem dX5_setCoresOfUnit_24 : decode cX5_setCoresOfUnit 24 = .ok (.iastore, 1) := by decide +kernel
theorem iX5_setCoresOfUnit_24 {f : Nat → Int32} (hh : h r = some (a, .inl (0, N, .inl f))) (hi : i = nI j) (hj : j < N) (hN : N < 2 ^ 31) (g : z_J Z mX5_setCoresOfUnit R k n Q 25 ls st (z_u h r (a, .inl (0, N, .inl (upd f j x))))) : z_J Z mX5_setCoresOfUnit R k n Q 24 ls (.int x :: .int i :: .ref a :: st) h := z_iast dX5_setCoresOfUnit_24 rfl hh hi hj hN g
def bX5_setCoresOfUnit_25 : zB := [(25, .iload_n 3, 26, nI 0)]
theorem bX5_setCoresOfUnit_25_ok : z_ok cX5_setCoresOfUnit 25 bX5_setCoresOfUnit_25 26 = true := by decide +kernel
theorem iX5_setCoresOfUnit_25 (hr : z_run 4 bX5_setCoresOfUnit_25 ls st = some (ls', st')) (g : z_J Z mX5_setCoresOfUnit R k n Q 26 ls' st' h) : z_J Z mX5_setCoresOfUnit R k n Q 25 ls st h := z_jr bX5_setCoresOfUnit_25 bX5_setCoresOfUnit_25_ok hr g
theorem dX5_setCoresOfUnit_26 : decode cX5_setCoresOfUnit 26 = .ok (.ireturn, 1) := by decide +kernel
theorem iX5_setCoresOfUnit_26 (hk : k ≤ R.cells) (hs : n ≤ R.slots) (hq : Q (.inl (some (.int x))) h) : z_J Z mX5_setCoresOfUnit R k n Q 26 ls [.int x] h := z_iret (ty := .int) dX5_setCoresOfUnit_26 rfl rfl hk hs hq
/-! X5_machines -/
def bX5_machines_0 : zB := [(0, .aload_n 0, 1, nI 0)]
theorem bX5_machines_0_ok : z_ok cX5_machines 0 bX5_machines_0 1 = true := by decide +kernel
theorem iX5_machines_0 (hr : z_run 1 bX5_machines_0 ls st = some (ls', st')) (g : z_J Z mX5_machines R k n Q 1 ls' st' h) : z_J Z mX5_machines R k n Q 0 ls st h := z_jr bX5_machines_0 bX5_machines_0_ok hr g
theorem dX5_machines_1 : decode cX5_machines 1 = .ok (.getfield 16, 3) := by decide +kernel
theorem iX5_machines_1 (hh : h r = some (a, .inr (6, fs))) (hv : fs[1]? = some v) (g : z_J Z mX5_machines R k n Q 4 ls (v :: st) h) : z_J Z mX5_machines R k n Q 1 ls (.ref a :: st) h := z_get dX5_machines_1 rfl fl_X5_16 hh hv g
theorem dX5_machines_4 : decode cX5_machines 4 = .ok (.invokevirtual 47, 3) := by decide +kernel
theorem iX5_machines_4 (ha : z_args 0 st [] = some (As, .ref b :: rest)) (hc : z_chk rest (.ref b :: As) 1 = true) (hh : h r = some (b, .inr (0, fs))) (hR : z_rm R R' 1 k n) (gc : z_J Z mJx4a65c_size_8abf5 R' 0 0 Q' 0 (.ref b :: As) [] h) (kr : ∀ (v : Option Value) (h' : zH), Q' (.inl v) h' → z_J Z mX5_machines R (k + R'.cells) (n + R'.slots) Q 7 ls (v.toList ++ rest) h') (kx : ∀ (E : String) (h' : zH), Q' (.inr E) h' → z_JX Z mX5_machines R (k + R'.cells) (n + R'.slots) Q 4 ls E h') : z_J Z mX5_machines R k n Q 4 ls st h := z_callV (M' := mJx4a65c_size_8abf5) dX5_machines_4 rfl cs_X5_47 rfl gw183 gw184 ha hh (ci := 0) rfl hR (z_chk1 hc) (z_chk2 hc) (z_chk3 hc) gc kr kx
theorem dX5_machines_7 : decode cX5_machines 7 = .ok (.ireturn, 1) := by decide +kernel
theorem iX5_machines_7 (hk : k ≤ R.cells) (hs : n ≤ R.slots) (hq : Q (.inl (some (.int x))) h) : z_J Z mX5_machines R k n Q 7 ls [.int x] h := z_iret (ty := .int) dX5_machines_7 rfl rfl hk hs hq
/-! X5_install -/
def bX5_install_0 : zB := [(0, .aload_n 0, 1, nI 0), (1, .iload_n 1, 2, nI 0), (2, .iload_n 2, 3, nI 0)]
theorem bX5_install_0_ok : z_ok cX5_install 0 bX5_install_0 3 = true := by decide +kernel
theorem iX5_install_0 (hr : z_run 6 bX5_install_0 ls st = some (ls', st')) (g : z_J Z mX5_install R k n Q 3 ls' st' h) : z_J Z mX5_install R k n Q 0 ls st h := z_jr bX5_install_0 bX5_install_0_ok hr g
theorem dX5_install_3 : decode cX5_install 3 = .ok (.invokevirtual 105, 3) := by decide +kernel
theorem iX5_install_3 (ha : z_args 2 st [] = some (As, .ref b :: rest)) (hc : z_chk rest (.ref b :: As) 3 = true) (hh : h r = some (b, .inr (6, fs))) (hR : z_rm R R' 3 k n) (gc : z_J Z mX5_historyOf R' 0 0 Q' 0 (.ref b :: As) [] h) (kr : ∀ (v : Option Value) (h' : zH), Q' (.inl v) h' → z_J Z mX5_install R (k + R'.cells) (n + R'.slots) Q 6 ls (v.toList ++ rest) h') (kx : ∀ (E : String) (h' : zH), Q' (.inr E) h' → z_JX Z mX5_install R (k + R'.cells) (n + R'.slots) Q 3 ls E h') : z_J Z mX5_install R k n Q 3 ls st h := z_callV (M' := mX5_historyOf) dX5_install_3 rfl cs_X5_105 rfl gw515 gwp6 ha hh (ci := 6) rfl hR (z_chk1 hc) (z_chk2 hc) (z_chk3 hc) gc kr kx
def bX5_install_6 : zB := [(6, .astore 5, 8, nI 0), (8, .iload_n 3, 9, nI 0), (9, .iconst 1, 10, nI 1), (10, .bipush 9, 12, nI 9)]
theorem bX5_install_6_ok : z_ok cX5_install 6 bX5_install_6 12 = true := by decide +kernel
theorem iX5_install_6 (hr : z_run 6 bX5_install_6 ls st = some (ls', st')) (g : z_J Z mX5_install R k n Q 12 ls' st' h) : z_J Z mX5_install R k n Q 6 ls st h := z_jr bX5_install_6 bX5_install_6_ok hr g
theorem dX5_install_12 : decode cX5_install 12 = .ok (.invokestatic 43, 3) := by decide +kernel
theorem iX5_install_12 (ha : z_args 3 st [] = some (As, rest)) (hc : z_chk rest As 3 = true) (hR : z_rm R R' 3 k n) (gc : z_J Z mX5_checkArgument R' 0 0 Q' 0 As [] h) (kr : ∀ (v : Option Value) (h' : zH), Q' (.inl v) h' → z_J Z mX5_install R (k + R'.cells) (n + R'.slots) Q 15 ls (v.toList ++ rest) h') (kx : ∀ (E : String) (h' : zH), Q' (.inr E) h' → z_JX Z mX5_install R (k + R'.cells) (n + R'.slots) Q 12 ls E h') : z_J Z mX5_install R k n Q 12 ls st h := z_callS (M' := mX5_checkArgument) dX5_install_12 rfl cs_X5_43 gw200 ha hR (z_chk1 hc) (z_chk2 hc) (z_chk3 hc) gc kr kx
def bX5_install_15 : zB := [(15, .iload 4, 17, nI 0)]
theorem bX5_install_15_ok : z_ok cX5_install 15 bX5_install_15 17 = true := by decide +kernel
theorem iX5_install_15 (hr : z_run 6 bX5_install_15 ls st = some (ls', st')) (g : z_J Z mX5_install R k n Q 17 ls' st' h) : z_J Z mX5_install R k n Q 15 ls st h := z_jr bX5_install_15 bX5_install_15_ok hr g
theorem dX5_install_17 : decode cX5_install 17 = .ok (.invokestatic 109, 3) := by decide +kernel
theorem iX5_install_17 (ha : z_args 1 st [] = some (As, rest)) (hc : z_chk rest As 1 = true) (hR : z_rm R R' 1 k n) (gc : z_J Z mX5_checkDay R' 0 0 Q' 0 As [] h) (kr : ∀ (v : Option Value) (h' : zH), Q' (.inl v) h' → z_J Z mX5_install R (k + R'.cells) (n + R'.slots) Q 20 ls (v.toList ++ rest) h') (kx : ∀ (E : String) (h' : zH), Q' (.inr E) h' → z_JX Z mX5_install R (k + R'.cells) (n + R'.slots) Q 17 ls E h') : z_J Z mX5_install R k n Q 17 ls st h := z_callS (M' := mX5_checkDay) dX5_install_17 rfl cs_X5_109 gw518 ha hR (z_chk1 hc) (z_chk2 hc) (z_chk3 hc) gc kr kx
def bX5_install_20 : zB := [(20, .aload 5, 22, nI 0)]
theorem bX5_install_20_ok : z_ok cX5_install 20 bX5_install_20 22 = true := by decide +kernel
theorem iX5_install_20 (hr : z_run 6 bX5_install_20 ls st = some (ls', st')) (g : z_J Z mX5_install R k n Q 22 ls' st' h) : z_J Z mX5_install R k n Q 20 ls st h := z_jr bX5_install_20 bX5_install_20_ok hr g
theorem dX5_install_22 : decode cX5_install 22 = .ok (.invokevirtual 112, 3) := by decide +kernel
theorem iX5_install_22 (ha : z_args 0 st [] = some (As, .ref b :: rest)) (hc : z_chk rest (.ref b :: As) 1 = true) (hh : h r = some (b, .inr (2, fs))) (hR : z_rm R R' 1 k n) (gc : z_J Z mX1_isFull R' 0 0 Q' 0 (.ref b :: As) [] h) (kr : ∀ (v : Option Value) (h' : zH), Q' (.inl v) h' → z_J Z mX5_install R (k + R'.cells) (n + R'.slots) Q 25 ls (v.toList ++ rest) h') (kx : ∀ (E : String) (h' : zH), Q' (.inr E) h' → z_JX Z mX5_install R (k + R'.cells) (n + R'.slots) Q 22 ls E h') : z_J Z mX5_install R k n Q 22 ls st h := z_callV (M' := mX1_isFull) dX5_install_22 rfl cs_X5_112 rfl gw521 gw522 ha hh (ci := 2) rfl hR (z_chk1 hc) (z_chk2 hc) (z_chk3 hc) gc kr kx
theorem dX5_install_25 : decode cX5_install 25 = .ok (.ifCond .ne 13, 3) := by decide +kernel
theorem iX5_install_25 (kt : ¬ x = 0 → z_J Z mX5_install R k n Q 38 ls st h) (kf : x = 0 → z_J Z mX5_install R k n Q 28 ls st h) : z_J Z mX5_install R k n Q 25 ls (.int x :: st) h := z_if_ne dX5_install_25 (tgt := 38) (by decide) rfl kt kf
def bX5_install_28 : zB := [(28, .aload 5, 30, nI 0)]
theorem bX5_install_28_ok : z_ok cX5_install 28 bX5_install_28 30 = true := by decide +kernel
theorem iX5_install_28 (hr : z_run 6 bX5_install_28 ls st = some (ls', st')) (g : z_J Z mX5_install R k n Q 30 ls' st' h) : z_J Z mX5_install R k n Q 28 ls st h := z_jr bX5_install_28 bX5_install_28_ok hr g
theorem dX5_install_30 : decode cX5_install 30 = .ok (.invokevirtual 118, 3) := by decide +kernel
theorem iX5_install_30 (ha : z_args 0 st [] = some (As, .ref b :: rest)) (hc : z_chk rest (.ref b :: As) 1 = true) (hh : h r = some (b, .inr (2, fs))) (hR : z_rm R R' 1 k n) (gc : z_J Z mX1_lastChange R' 0 0 Q' 0 (.ref b :: As) [] h) (kr : ∀ (v : Option Value) (h' : zH), Q' (.inl v) h' → z_J Z mX5_install R (k + R'.cells) (n + R'.slots) Q 33 ls (v.toList ++ rest) h') (kx : ∀ (E : String) (h' : zH), Q' (.inr E) h' → z_JX Z mX5_install R (k + R'.cells) (n + R'.slots) Q 30 ls E h') : z_J Z mX5_install R k n Q 30 ls st h := z_callV (M' := mX1_lastChange) dX5_install_30 rfl cs_X5_118 rfl gw525 gw526 ha hh (ci := 2) rfl hR (z_chk1 hc) (z_chk2 hc) (z_chk3 hc) gc kr kx
def bX5_install_33 : zB := [(33, .iload 4, 35, nI 0)]
theorem bX5_install_33_ok : z_ok cX5_install 33 bX5_install_33 35 = true := by decide +kernel
theorem iX5_install_33 (hr : z_run 6 bX5_install_33 ls st = some (ls', st')) (g : z_J Z mX5_install R k n Q 35 ls' st' h) : z_J Z mX5_install R k n Q 33 ls st h := z_jr bX5_install_33 bX5_install_33_ok hr g
theorem dX5_install_35 : decode cX5_install 35 = .ok (.if_icmp .lt 13, 3) := by decide +kernel
theorem iX5_install_35 (kt : x < y → z_J Z mX5_install R k n Q 48 ls st h) (kf : ¬ x < y → z_J Z mX5_install R k n Q 38 ls st h) : z_J Z mX5_install R k n Q 35 ls (.int y :: .int x :: st) h := z_ic_lt dX5_install_35 (tgt := 48) (by decide) rfl kt kf
theorem dX5_install_38 : decode cX5_install 38 = .ok (.new 51, 3) := by decide +kernel
theorem dX5_install_41 : decode cX5_install 41 = .ok (.dup, 1) := by decide +kernel
theorem dX5_install_42 : decode cX5_install 42 = .ok (.ldc 121, 2) := by decide +kernel
theorem dX5_install_44 : decode cX5_install 44 = .ok (.invokespecial 55, 3) := by decide +kernel
theorem dX5_install_47 : decode cX5_install 47 = .ok (.athrow, 1) := by decide +kernel
theorem iX5_install_38 (hRf : 5 < R.frames) (hRl : (st.map fun v => v.category).sum + 82 ≤ R.locals) (hRc : k + 1 ≤ R.cells) (hRs : n + 6 ≤ R.slots) (hq : Q (.inr "java/lang/IllegalStateException") h) : z_J Z mX5_install R k n Q 38 ls st h := z_throw (names := ["java/lang/RuntimeException", "java/lang/Exception"]) (text := "installed 10 times, or changed on this day or a later one") rfl dX5_install_38 dX5_install_41 dX5_install_42 dX5_install_44 dX5_install_47 (by decide +kernel) (by decide +kernel) gw270 gw44 (by decide +kernel) at_X5_55 at_X5_55_g hRf hRl hRc hRs hq
def bX5_install_48 : zB := [(48, .aload 5, 50, nI 0), (50, .iload_n 3, 51, nI 0), (51, .iload 4, 53, nI 0)]
theorem bX5_install_48_ok : z_ok cX5_install 48 bX5_install_48 53 = true := by decide +kernel
theorem iX5_install_48 (hr : z_run 6 bX5_install_48 ls st = some (ls', st')) (g : z_J Z mX5_install R k n Q 53 ls' st' h) : z_J Z mX5_install R k n Q 48 ls st h := z_jr bX5_install_48 bX5_install_48_ok hr g
theorem dX5_install_53 : decode cX5_install 53 = .ok (.invokevirtual 123, 3) := by decide +kernel
theorem iX5_install_53 (ha : z_args 2 st [] = some (As, .ref b :: rest)) (hc : z_chk rest (.ref b :: As) 3 = true) (hh : h r = some (b, .inr (2, fs))) (hR : z_rm R R' 3 k n) (gc : z_J Z mX1_begin R' 0 0 Q' 0 (.ref b :: As) [] h) (kr : ∀ (v : Option Value) (h' : zH), Q' (.inl v) h' → z_J Z mX5_install R (k + R'.cells) (n + R'.slots) Q 56 ls (v.toList ++ rest) h') (kx : ∀ (E : String) (h' : zH), Q' (.inr E) h' → z_JX Z mX5_install R (k + R'.cells) (n + R'.slots) Q 53 ls E h') : z_J Z mX5_install R k n Q 53 ls st h := z_callV (M' := mX1_begin) dX5_install_53 rfl cs_X5_123 rfl gw534 gw535 ha hh (ci := 2) rfl hR (z_chk1 hc) (z_chk2 hc) (z_chk3 hc) gc kr kx
def bX5_install_56 : zB := [(56, .aload 5, 58, nI 0)]
theorem bX5_install_56_ok : z_ok cX5_install 56 bX5_install_56 58 = true := by decide +kernel
theorem iX5_install_56 (hr : z_run 6 bX5_install_56 ls st = some (ls', st')) (g : z_J Z mX5_install R k n Q 58 ls' st' h) : z_J Z mX5_install R k n Q 56 ls st h := z_jr bX5_install_56 bX5_install_56_ok hr g
theorem dX5_install_58 : decode cX5_install 58 = .ok (.getfield 127, 3) := by decide +kernel
theorem iX5_install_58 (hh : h r = some (a, .inr (2, fs))) (hv : fs[3]? = some v) (g : z_J Z mX5_install R k n Q 61 ls (v :: st) h) : z_J Z mX5_install R k n Q 58 ls (.ref a :: st) h := z_get dX5_install_58 rfl fl_X5_127 hh hv g
theorem dX5_install_61 : decode cX5_install 61 = .ok (.ireturn, 1) := by decide +kernel
theorem iX5_install_61 (hk : k ≤ R.cells) (hs : n ≤ R.slots) (hq : Q (.inl (some (.int x))) h) : z_J Z mX5_install R k n Q 61 ls [.int x] h := z_iret (ty := .int) dX5_install_61 rfl rfl hk hs hq
/-! X5_uninstall -/
def bX5_uninstall_0 : zB := [(0, .aload_n 0, 1, nI 0), (1, .iload_n 1, 2, nI 0), (2, .iload_n 2, 3, nI 0)]
theorem bX5_uninstall_0_ok : z_ok cX5_uninstall 0 bX5_uninstall_0 3 = true := by decide +kernel
theorem iX5_uninstall_0 (hr : z_run 5 bX5_uninstall_0 ls st = some (ls', st')) (g : z_J Z mX5_uninstall R k n Q 3 ls' st' h) : z_J Z mX5_uninstall R k n Q 0 ls st h := z_jr bX5_uninstall_0 bX5_uninstall_0_ok hr g
theorem dX5_uninstall_3 : decode cX5_uninstall 3 = .ok (.invokevirtual 105, 3) := by decide +kernel
theorem iX5_uninstall_3 (ha : z_args 2 st [] = some (As, .ref b :: rest)) (hc : z_chk rest (.ref b :: As) 3 = true) (hh : h r = some (b, .inr (6, fs))) (hR : z_rm R R' 3 k n) (gc : z_J Z mX5_historyOf R' 0 0 Q' 0 (.ref b :: As) [] h) (kr : ∀ (v : Option Value) (h' : zH), Q' (.inl v) h' → z_J Z mX5_uninstall R (k + R'.cells) (n + R'.slots) Q 6 ls (v.toList ++ rest) h') (kx : ∀ (E : String) (h' : zH), Q' (.inr E) h' → z_JX Z mX5_uninstall R (k + R'.cells) (n + R'.slots) Q 3 ls E h') : z_J Z mX5_uninstall R k n Q 3 ls st h := z_callV (M' := mX5_historyOf) dX5_uninstall_3 rfl cs_X5_105 rfl gw515 gwp6 ha hh (ci := 6) rfl hR (z_chk1 hc) (z_chk2 hc) (z_chk3 hc) gc kr kx
def bX5_uninstall_6 : zB := [(6, .astore 4, 8, nI 0), (8, .iload_n 3, 9, nI 0)]
theorem bX5_uninstall_6_ok : z_ok cX5_uninstall 6 bX5_uninstall_6 9 = true := by decide +kernel
theorem iX5_uninstall_6 (hr : z_run 5 bX5_uninstall_6 ls st = some (ls', st')) (g : z_J Z mX5_uninstall R k n Q 9 ls' st' h) : z_J Z mX5_uninstall R k n Q 6 ls st h := z_jr bX5_uninstall_6 bX5_uninstall_6_ok hr g
theorem dX5_uninstall_9 : decode cX5_uninstall 9 = .ok (.invokestatic 109, 3) := by decide +kernel
theorem iX5_uninstall_9 (ha : z_args 1 st [] = some (As, rest)) (hc : z_chk rest As 1 = true) (hR : z_rm R R' 1 k n) (gc : z_J Z mX5_checkDay R' 0 0 Q' 0 As [] h) (kr : ∀ (v : Option Value) (h' : zH), Q' (.inl v) h' → z_J Z mX5_uninstall R (k + R'.cells) (n + R'.slots) Q 12 ls (v.toList ++ rest) h') (kx : ∀ (E : String) (h' : zH), Q' (.inr E) h' → z_JX Z mX5_uninstall R (k + R'.cells) (n + R'.slots) Q 9 ls E h') : z_J Z mX5_uninstall R k n Q 9 ls st h := z_callS (M' := mX5_checkDay) dX5_uninstall_9 rfl cs_X5_109 gw518 ha hR (z_chk1 hc) (z_chk2 hc) (z_chk3 hc) gc kr kx
def bX5_uninstall_12 : zB := [(12, .aload 4, 14, nI 0)]
theorem bX5_uninstall_12_ok : z_ok cX5_uninstall 12 bX5_uninstall_12 14 = true := by decide +kernel
theorem iX5_uninstall_12 (hr : z_run 5 bX5_uninstall_12 ls st = some (ls', st')) (g : z_J Z mX5_uninstall R k n Q 14 ls' st' h) : z_J Z mX5_uninstall R k n Q 12 ls st h := z_jr bX5_uninstall_12 bX5_uninstall_12_ok hr g
theorem dX5_uninstall_14 : decode cX5_uninstall 14 = .ok (.invokevirtual 130, 3) := by decide +kernel
theorem iX5_uninstall_14 (ha : z_args 0 st [] = some (As, .ref b :: rest)) (hc : z_chk rest (.ref b :: As) 1 = true) (hh : h r = some (b, .inr (2, fs))) (hR : z_rm R R' 1 k n) (gc : z_J Z mX1_isOpen R' 0 0 Q' 0 (.ref b :: As) [] h) (kr : ∀ (v : Option Value) (h' : zH), Q' (.inl v) h' → z_J Z mX5_uninstall R (k + R'.cells) (n + R'.slots) Q 17 ls (v.toList ++ rest) h') (kx : ∀ (E : String) (h' : zH), Q' (.inr E) h' → z_JX Z mX5_uninstall R (k + R'.cells) (n + R'.slots) Q 14 ls E h') : z_J Z mX5_uninstall R k n Q 14 ls st h := z_callV (M' := mX1_isOpen) dX5_uninstall_14 rfl cs_X5_130 rfl gw529 gw530 ha hh (ci := 2) rfl hR (z_chk1 hc) (z_chk2 hc) (z_chk3 hc) gc kr kx
theorem dX5_uninstall_17 : decode cX5_uninstall 17 = .ok (.ifCond .eq 12, 3) := by decide +kernel
theorem iX5_uninstall_17 (kt : x = 0 → z_J Z mX5_uninstall R k n Q 29 ls st h) (kf : ¬ x = 0 → z_J Z mX5_uninstall R k n Q 20 ls st h) : z_J Z mX5_uninstall R k n Q 17 ls (.int x :: st) h := z_if_eq dX5_uninstall_17 (tgt := 29) (by decide) rfl kt kf
def bX5_uninstall_20 : zB := [(20, .aload 4, 22, nI 0)]
theorem bX5_uninstall_20_ok : z_ok cX5_uninstall 20 bX5_uninstall_20 22 = true := by decide +kernel
theorem iX5_uninstall_20 (hr : z_run 5 bX5_uninstall_20 ls st = some (ls', st')) (g : z_J Z mX5_uninstall R k n Q 22 ls' st' h) : z_J Z mX5_uninstall R k n Q 20 ls st h := z_jr bX5_uninstall_20 bX5_uninstall_20_ok hr g
theorem dX5_uninstall_22 : decode cX5_uninstall 22 = .ok (.invokevirtual 118, 3) := by decide +kernel
theorem iX5_uninstall_22 (ha : z_args 0 st [] = some (As, .ref b :: rest)) (hc : z_chk rest (.ref b :: As) 1 = true) (hh : h r = some (b, .inr (2, fs))) (hR : z_rm R R' 1 k n) (gc : z_J Z mX1_lastChange R' 0 0 Q' 0 (.ref b :: As) [] h) (kr : ∀ (v : Option Value) (h' : zH), Q' (.inl v) h' → z_J Z mX5_uninstall R (k + R'.cells) (n + R'.slots) Q 25 ls (v.toList ++ rest) h') (kx : ∀ (E : String) (h' : zH), Q' (.inr E) h' → z_JX Z mX5_uninstall R (k + R'.cells) (n + R'.slots) Q 22 ls E h') : z_J Z mX5_uninstall R k n Q 22 ls st h := z_callV (M' := mX1_lastChange) dX5_uninstall_22 rfl cs_X5_118 rfl gw525 gw526 ha hh (ci := 2) rfl hR (z_chk1 hc) (z_chk2 hc) (z_chk3 hc) gc kr kx
def bX5_uninstall_25 : zB := [(25, .iload_n 3, 26, nI 0)]
theorem bX5_uninstall_25_ok : z_ok cX5_uninstall 25 bX5_uninstall_25 26 = true := by decide +kernel
theorem iX5_uninstall_25 (hr : z_run 5 bX5_uninstall_25 ls st = some (ls', st')) (g : z_J Z mX5_uninstall R k n Q 26 ls' st' h) : z_J Z mX5_uninstall R k n Q 25 ls st h := z_jr bX5_uninstall_25 bX5_uninstall_25_ok hr g
theorem dX5_uninstall_26 : decode cX5_uninstall 26 = .ok (.if_icmp .lt 13, 3) := by decide +kernel
theorem iX5_uninstall_26 (kt : x < y → z_J Z mX5_uninstall R k n Q 39 ls st h) (kf : ¬ x < y → z_J Z mX5_uninstall R k n Q 29 ls st h) : z_J Z mX5_uninstall R k n Q 26 ls (.int y :: .int x :: st) h := z_ic_lt dX5_uninstall_26 (tgt := 39) (by decide) rfl kt kf
theorem dX5_uninstall_29 : decode cX5_uninstall 29 = .ok (.new 51, 3) := by decide +kernel
theorem dX5_uninstall_32 : decode cX5_uninstall 32 = .ok (.dup, 1) := by decide +kernel
theorem dX5_uninstall_33 : decode cX5_uninstall 33 = .ok (.ldc 133, 2) := by decide +kernel
theorem dX5_uninstall_35 : decode cX5_uninstall 35 = .ok (.invokespecial 55, 3) := by decide +kernel
theorem dX5_uninstall_38 : decode cX5_uninstall 38 = .ok (.athrow, 1) := by decide +kernel
theorem iX5_uninstall_29 (hRf : 5 < R.frames) (hRl : (st.map fun v => v.category).sum + 82 ≤ R.locals) (hRc : k + 1 ≤ R.cells) (hRs : n + 6 ≤ R.slots) (hq : Q (.inr "java/lang/IllegalStateException") h) : z_J Z mX5_uninstall R k n Q 29 ls st h := z_throw (names := ["java/lang/RuntimeException", "java/lang/Exception"]) (text := "not installed now, or installed on this day or a later one") rfl dX5_uninstall_29 dX5_uninstall_32 dX5_uninstall_33 dX5_uninstall_35 dX5_uninstall_38 (by decide +kernel) (by decide +kernel) gw270 gw44 (by decide +kernel) at_X5_55 at_X5_55_g hRf hRl hRc hRs hq
def bX5_uninstall_39 : zB := [(39, .aload 4, 41, nI 0), (41, .iload_n 3, 42, nI 0)]
theorem bX5_uninstall_39_ok : z_ok cX5_uninstall 39 bX5_uninstall_39 42 = true := by decide +kernel
theorem iX5_uninstall_39 (hr : z_run 5 bX5_uninstall_39 ls st = some (ls', st')) (g : z_J Z mX5_uninstall R k n Q 42 ls' st' h) : z_J Z mX5_uninstall R k n Q 39 ls st h := z_jr bX5_uninstall_39 bX5_uninstall_39_ok hr g
theorem dX5_uninstall_42 : decode cX5_uninstall 42 = .ok (.invokevirtual 135, 3) := by decide +kernel
theorem iX5_uninstall_42 (ha : z_args 1 st [] = some (As, .ref b :: rest)) (hc : z_chk rest (.ref b :: As) 2 = true) (hh : h r = some (b, .inr (2, fs))) (hR : z_rm R R' 2 k n) (gc : z_J Z mX1_end R' 0 0 Q' 0 (.ref b :: As) [] h) (kr : ∀ (v : Option Value) (h' : zH), Q' (.inl v) h' → z_J Z mX5_uninstall R (k + R'.cells) (n + R'.slots) Q 45 ls (v.toList ++ rest) h') (kx : ∀ (E : String) (h' : zH), Q' (.inr E) h' → z_JX Z mX5_uninstall R (k + R'.cells) (n + R'.slots) Q 42 ls E h') : z_J Z mX5_uninstall R k n Q 42 ls st h := z_callV (M' := mX1_end) dX5_uninstall_42 rfl cs_X5_135 rfl gw548 gw549 ha hh (ci := 2) rfl hR (z_chk1 hc) (z_chk2 hc) (z_chk3 hc) gc kr kx
theorem dX5_uninstall_45 : decode cX5_uninstall 45 = .ok (.ireturn, 1) := by decide +kernel
theorem iX5_uninstall_45 (hk : k ≤ R.cells) (hs : n ≤ R.slots) (hq : Q (.inl (some (.int x))) h) : z_J Z mX5_uninstall R k n Q 45 ls [.int x] h := z_iret (ty := .int) dX5_uninstall_45 rfl rfl hk hs hq
/-! X5_runs -/
def bX5_runs_0 : zB := [(0, .aload_n 0, 1, nI 0), (1, .iload_n 1, 2, nI 0), (2, .iload_n 2, 3, nI 0)]
theorem bX5_runs_0_ok : z_ok cX5_runs 0 bX5_runs_0 3 = true := by decide +kernel
theorem iX5_runs_0 (hr : z_run 5 bX5_runs_0 ls st = some (ls', st')) (g : z_J Z mX5_runs R k n Q 3 ls' st' h) : z_J Z mX5_runs R k n Q 0 ls st h := z_jr bX5_runs_0 bX5_runs_0_ok hr g
theorem dX5_runs_3 : decode cX5_runs 3 = .ok (.invokevirtual 105, 3) := by decide +kernel
theorem iX5_runs_3 (ha : z_args 2 st [] = some (As, .ref b :: rest)) (hc : z_chk rest (.ref b :: As) 3 = true) (hh : h r = some (b, .inr (6, fs))) (hR : z_rm R R' 3 k n) (gc : z_J Z mX5_historyOf R' 0 0 Q' 0 (.ref b :: As) [] h) (kr : ∀ (v : Option Value) (h' : zH), Q' (.inl v) h' → z_J Z mX5_runs R (k + R'.cells) (n + R'.slots) Q 6 ls (v.toList ++ rest) h') (kx : ∀ (E : String) (h' : zH), Q' (.inr E) h' → z_JX Z mX5_runs R (k + R'.cells) (n + R'.slots) Q 3 ls E h') : z_J Z mX5_runs R k n Q 3 ls st h := z_callV (M' := mX5_historyOf) dX5_runs_3 rfl cs_X5_105 rfl gw515 gwp6 ha hh (ci := 6) rfl hR (z_chk1 hc) (z_chk2 hc) (z_chk3 hc) gc kr kx
def bX5_runs_6 : zB := [(6, .astore 4, 8, nI 0), (8, .iload_n 3, 9, nI 0)]
theorem bX5_runs_6_ok : z_ok cX5_runs 6 bX5_runs_6 9 = true := by decide +kernel
theorem iX5_runs_6 (hr : z_run 5 bX5_runs_6 ls st = some (ls', st')) (g : z_J Z mX5_runs R k n Q 9 ls' st' h) : z_J Z mX5_runs R k n Q 6 ls st h := z_jr bX5_runs_6 bX5_runs_6_ok hr g
theorem dX5_runs_9 : decode cX5_runs 9 = .ok (.invokestatic 109, 3) := by decide +kernel
theorem iX5_runs_9 (ha : z_args 1 st [] = some (As, rest)) (hc : z_chk rest As 1 = true) (hR : z_rm R R' 1 k n) (gc : z_J Z mX5_checkDay R' 0 0 Q' 0 As [] h) (kr : ∀ (v : Option Value) (h' : zH), Q' (.inl v) h' → z_J Z mX5_runs R (k + R'.cells) (n + R'.slots) Q 12 ls (v.toList ++ rest) h') (kx : ∀ (E : String) (h' : zH), Q' (.inr E) h' → z_JX Z mX5_runs R (k + R'.cells) (n + R'.slots) Q 9 ls E h') : z_J Z mX5_runs R k n Q 9 ls st h := z_callS (M' := mX5_checkDay) dX5_runs_9 rfl cs_X5_109 gw518 ha hR (z_chk1 hc) (z_chk2 hc) (z_chk3 hc) gc kr kx
def bX5_runs_12 : zB := [(12, .aload 4, 14, nI 0), (14, .iload_n 3, 15, nI 0)]
theorem bX5_runs_12_ok : z_ok cX5_runs 12 bX5_runs_12 15 = true := by decide +kernel
theorem iX5_runs_12 (hr : z_run 5 bX5_runs_12 ls st = some (ls', st')) (g : z_J Z mX5_runs R k n Q 15 ls' st' h) : z_J Z mX5_runs R k n Q 12 ls st h := z_jr bX5_runs_12 bX5_runs_12_ok hr g
theorem dX5_runs_15 : decode cX5_runs 15 = .ok (.invokevirtual 139, 3) := by decide +kernel
theorem iX5_runs_15 (ha : z_args 1 st [] = some (As, .ref b :: rest)) (hc : z_chk rest (.ref b :: As) 3 = true) (hh : h r = some (b, .inr (2, fs))) (hR : z_rm R R' 3 k n) (gc : z_J Z mX1_versionOn R' 0 0 Q' 0 (.ref b :: As) [] h) (kr : ∀ (v : Option Value) (h' : zH), Q' (.inl v) h' → z_J Z mX5_runs R (k + R'.cells) (n + R'.slots) Q 18 ls (v.toList ++ rest) h') (kx : ∀ (E : String) (h' : zH), Q' (.inr E) h' → z_JX Z mX5_runs R (k + R'.cells) (n + R'.slots) Q 15 ls E h') : z_J Z mX5_runs R k n Q 15 ls st h := z_callV (M' := mX1_versionOn) dX5_runs_15 rfl cs_X5_139 rfl gw559 gw560 ha hh (ci := 2) rfl hR (z_chk1 hc) (z_chk2 hc) (z_chk3 hc) gc kr kx
theorem dX5_runs_18 : decode cX5_runs 18 = .ok (.ireturn, 1) := by decide +kernel
theorem iX5_runs_18 (hk : k ≤ R.cells) (hs : n ≤ R.slots) (hq : Q (.inl (some (.int x))) h) : z_J Z mX5_runs R k n Q 18 ls [.int x] h := z_iret (ty := .int) dX5_runs_18 rfl rfl hk hs hq
/-! X5_needs -/
def bX5_needs_0 : zB := [(0, .iload_n 1, 1, nI 0)]
theorem bX5_needs_0_ok : z_ok cX5_needs 0 bX5_needs_0 1 = true := by decide +kernel
theorem iX5_needs_0 (hr : z_run 2 bX5_needs_0 ls st = some (ls', st')) (g : z_J Z mX5_needs R k n Q 1 ls' st' h) : z_J Z mX5_needs R k n Q 0 ls st h := z_jr bX5_needs_0 bX5_needs_0_ok hr g
theorem dX5_needs_1 : decode cX5_needs 1 = .ok (.invokestatic 109, 3) := by decide +kernel
theorem iX5_needs_1 (ha : z_args 1 st [] = some (As, rest)) (hc : z_chk rest As 1 = true) (hR : z_rm R R' 1 k n) (gc : z_J Z mX5_checkDay R' 0 0 Q' 0 As [] h) (kr : ∀ (v : Option Value) (h' : zH), Q' (.inl v) h' → z_J Z mX5_needs R (k + R'.cells) (n + R'.slots) Q 4 ls (v.toList ++ rest) h') (kx : ∀ (E : String) (h' : zH), Q' (.inr E) h' → z_JX Z mX5_needs R (k + R'.cells) (n + R'.slots) Q 1 ls E h') : z_J Z mX5_needs R k n Q 1 ls st h := z_callS (M' := mX5_checkDay) dX5_needs_1 rfl cs_X5_109 gw518 ha hR (z_chk1 hc) (z_chk2 hc) (z_chk3 hc) gc kr kx
def bX5_needs_4 : zB := [(4, .aload_n 0, 5, nI 0), (5, .iload_n 1, 6, nI 0)]
theorem bX5_needs_4_ok : z_ok cX5_needs 4 bX5_needs_4 6 = true := by decide +kernel
theorem iX5_needs_4 (hr : z_run 2 bX5_needs_4 ls st = some (ls', st')) (g : z_J Z mX5_needs R k n Q 6 ls' st' h) : z_J Z mX5_needs R k n Q 4 ls st h := z_jr bX5_needs_4 bX5_needs_4_ok hr g
theorem dX5_needs_6 : decode cX5_needs 6 = .ok (.invokevirtual 142, 3) := by decide +kernel
theorem iX5_needs_6 (ha : z_args 1 st [] = some (As, .ref b :: rest)) (hc : z_chk rest (.ref b :: As) 6 = true) (hh : h r = some (b, .inr (6, fs))) (hR : z_rm R R' 6 k n) (gc : z_J Z mX5_findNeeds R' 0 0 Q' 0 (.ref b :: As) [] h) (kr : ∀ (v : Option Value) (h' : zH), Q' (.inl v) h' → z_J Z mX5_needs R (k + R'.cells) (n + R'.slots) Q 9 ls (v.toList ++ rest) h') (kx : ∀ (E : String) (h' : zH), Q' (.inr E) h' → z_JX Z mX5_needs R (k + R'.cells) (n + R'.slots) Q 6 ls E h') : z_J Z mX5_needs R k n Q 6 ls st h := z_callV (M' := mX5_findNeeds) dX5_needs_6 rfl cs_X5_142 rfl gw571 gwp7 ha hh (ci := 6) rfl hR (z_chk1 hc) (z_chk2 hc) (z_chk3 hc) gc kr kx
def bX5_needs_9 : zB := [(9, .aload_n 0, 10, nI 0)]
theorem bX5_needs_9_ok : z_ok cX5_needs 9 bX5_needs_9 10 = true := by decide +kernel
theorem iX5_needs_9 (hr : z_run 2 bX5_needs_9 ls st = some (ls', st')) (g : z_J Z mX5_needs R k n Q 10 ls' st' h) : z_J Z mX5_needs R k n Q 9 ls st h := z_jr bX5_needs_9 bX5_needs_9_ok hr g
theorem dX5_needs_10 : decode cX5_needs 10 = .ok (.getfield 26, 3) := by decide +kernel
theorem iX5_needs_10 (hh : h r = some (a, .inr (6, fs))) (hv : fs[3]? = some v) (g : z_J Z mX5_needs R k n Q 13 ls (v :: st) h) : z_J Z mX5_needs R k n Q 10 ls (.ref a :: st) h := z_get dX5_needs_10 rfl fl_X5_26 hh hv g
theorem dX5_needs_13 : decode cX5_needs 13 = .ok (.getfield 145, 3) := by decide +kernel
theorem iX5_needs_13 (hh : h r = some (a, .inr (4, fs))) (hv : fs[5]? = some v) (g : z_J Z mX5_needs R k n Q 16 ls (v :: st) h) : z_J Z mX5_needs R k n Q 13 ls (.ref a :: st) h := z_get dX5_needs_13 rfl fl_X5_145 hh hv g
theorem dX5_needs_16 : decode cX5_needs 16 = .ok (.ireturn, 1) := by decide +kernel
theorem iX5_needs_16 (hk : k ≤ R.cells) (hs : n ≤ R.slots) (hq : Q (.inl (some (.int x))) h) : z_J Z mX5_needs R k n Q 16 ls [.int x] h := z_iret (ty := .int) dX5_needs_16 rfl rfl hk hs hq
/-! X5_need -/
def bX5_need_0 : zB := [(0, .iload_n 1, 1, nI 0)]
theorem bX5_need_0_ok : z_ok cX5_need 0 bX5_need_0 1 = true := by decide +kernel
theorem iX5_need_0 (hr : z_run 3 bX5_need_0 ls st = some (ls', st')) (g : z_J Z mX5_need R k n Q 1 ls' st' h) : z_J Z mX5_need R k n Q 0 ls st h := z_jr bX5_need_0 bX5_need_0_ok hr g
theorem dX5_need_1 : decode cX5_need 1 = .ok (.invokestatic 109, 3) := by decide +kernel
theorem iX5_need_1 (ha : z_args 1 st [] = some (As, rest)) (hc : z_chk rest As 1 = true) (hR : z_rm R R' 1 k n) (gc : z_J Z mX5_checkDay R' 0 0 Q' 0 As [] h) (kr : ∀ (v : Option Value) (h' : zH), Q' (.inl v) h' → z_J Z mX5_need R (k + R'.cells) (n + R'.slots) Q 4 ls (v.toList ++ rest) h') (kx : ∀ (E : String) (h' : zH), Q' (.inr E) h' → z_JX Z mX5_need R (k + R'.cells) (n + R'.slots) Q 1 ls E h') : z_J Z mX5_need R k n Q 1 ls st h := z_callS (M' := mX5_checkDay) dX5_need_1 rfl cs_X5_109 gw518 ha hR (z_chk1 hc) (z_chk2 hc) (z_chk3 hc) gc kr kx
def bX5_need_4 : zB := [(4, .aload_n 0, 5, nI 0), (5, .iload_n 1, 6, nI 0)]
theorem bX5_need_4_ok : z_ok cX5_need 4 bX5_need_4 6 = true := by decide +kernel
theorem iX5_need_4 (hr : z_run 3 bX5_need_4 ls st = some (ls', st')) (g : z_J Z mX5_need R k n Q 6 ls' st' h) : z_J Z mX5_need R k n Q 4 ls st h := z_jr bX5_need_4 bX5_need_4_ok hr g
theorem dX5_need_6 : decode cX5_need 6 = .ok (.invokevirtual 142, 3) := by decide +kernel
theorem iX5_need_6 (ha : z_args 1 st [] = some (As, .ref b :: rest)) (hc : z_chk rest (.ref b :: As) 6 = true) (hh : h r = some (b, .inr (6, fs))) (hR : z_rm R R' 6 k n) (gc : z_J Z mX5_findNeeds R' 0 0 Q' 0 (.ref b :: As) [] h) (kr : ∀ (v : Option Value) (h' : zH), Q' (.inl v) h' → z_J Z mX5_need R (k + R'.cells) (n + R'.slots) Q 9 ls (v.toList ++ rest) h') (kx : ∀ (E : String) (h' : zH), Q' (.inr E) h' → z_JX Z mX5_need R (k + R'.cells) (n + R'.slots) Q 6 ls E h') : z_J Z mX5_need R k n Q 6 ls st h := z_callV (M' := mX5_findNeeds) dX5_need_6 rfl cs_X5_142 rfl gw571 gwp7 ha hh (ci := 6) rfl hR (z_chk1 hc) (z_chk2 hc) (z_chk3 hc) gc kr kx
def bX5_need_9 : zB := [(9, .aload_n 0, 10, nI 0), (10, .iload_n 2, 11, nI 0)]
theorem bX5_need_9_ok : z_ok cX5_need 9 bX5_need_9 11 = true := by decide +kernel
theorem iX5_need_9 (hr : z_run 3 bX5_need_9 ls st = some (ls', st')) (g : z_J Z mX5_need R k n Q 11 ls' st' h) : z_J Z mX5_need R k n Q 9 ls st h := z_jr bX5_need_9 bX5_need_9_ok hr g
theorem dX5_need_11 : decode cX5_need 11 = .ok (.invokevirtual 148, 3) := by decide +kernel
theorem iX5_need_11 (ha : z_args 1 st [] = some (As, .ref b :: rest)) (hc : z_chk rest (.ref b :: As) 2 = true) (hh : h r = some (b, .inr (6, fs))) (hR : z_rm R R' 2 k n) (gc : z_J Z mX5_checkNeed R' 0 0 Q' 0 (.ref b :: As) [] h) (kr : ∀ (v : Option Value) (h' : zH), Q' (.inl v) h' → z_J Z mX5_need R (k + R'.cells) (n + R'.slots) Q 14 ls (v.toList ++ rest) h') (kx : ∀ (E : String) (h' : zH), Q' (.inr E) h' → z_JX Z mX5_need R (k + R'.cells) (n + R'.slots) Q 11 ls E h') : z_J Z mX5_need R k n Q 11 ls st h := z_callV (M' := mX5_checkNeed) dX5_need_11 rfl cs_X5_148 rfl gw599 gwp8 ha hh (ci := 6) rfl hR (z_chk1 hc) (z_chk2 hc) (z_chk3 hc) gc kr kx
def bX5_need_14 : zB := [(14, .bipush 100, 16, nI 100), (16, .aload_n 0, 17, nI 0)]
theorem bX5_need_14_ok : z_ok cX5_need 14 bX5_need_14 17 = true := by decide +kernel
theorem iX5_need_14 (hr : z_run 3 bX5_need_14 ls st = some (ls', st')) (g : z_J Z mX5_need R k n Q 17 ls' st' h) : z_J Z mX5_need R k n Q 14 ls st h := z_jr bX5_need_14 bX5_need_14_ok hr g
theorem dX5_need_17 : decode cX5_need 17 = .ok (.getfield 26, 3) := by decide +kernel
theorem iX5_need_17 (hh : h r = some (a, .inr (6, fs))) (hv : fs[3]? = some v) (g : z_J Z mX5_need R k n Q 20 ls (v :: st) h) : z_J Z mX5_need R k n Q 17 ls (.ref a :: st) h := z_get dX5_need_17 rfl fl_X5_26 hh hv g
theorem dX5_need_20 : decode cX5_need 20 = .ok (.getfield 151, 3) := by decide +kernel
theorem iX5_need_20 (hh : h r = some (a, .inr (4, fs))) (hv : fs[0]? = some v) (g : z_J Z mX5_need R k n Q 23 ls (v :: st) h) : z_J Z mX5_need R k n Q 20 ls (.ref a :: st) h := z_get dX5_need_20 rfl fl_X5_151 hh hv g
def bX5_need_23 : zB := [(23, .iload_n 2, 24, nI 0)]
theorem bX5_need_23_ok : z_ok cX5_need 23 bX5_need_23 24 = true := by decide +kernel
theorem iX5_need_23 (hr : z_run 3 bX5_need_23 ls st = some (ls', st')) (g : z_J Z mX5_need R k n Q 24 ls' st' h) : z_J Z mX5_need R k n Q 23 ls st h := z_jr bX5_need_23 bX5_need_23_ok hr g
theorem dX5_need_24 : decode cX5_need 24 = .ok (.iaload, 1) := by decide +kernel
theorem iX5_need_24 {f : Nat → Int32} (hh : h r = some (a, .inl (0, N, .inl f))) (hi : i = nI j) (hj : j < N) (hN : N < 2 ^ 31) (g : z_J Z mX5_need R k n Q 25 ls (.int (f j) :: st) h) : z_J Z mX5_need R k n Q 24 ls (.int i :: .ref a :: st) h := z_iald dX5_need_24 rfl hh hi hj hN g
def bX5_need_25 : zB := [(25, .imul, 26, nI 0), (26, .bipush 10, 28, nI 10), (28, .aload_n 0, 29, nI 0)]
theorem bX5_need_25_ok : z_ok cX5_need 25 bX5_need_25 29 = true := by decide +kernel
theorem iX5_need_25 (hr : z_run 3 bX5_need_25 ls st = some (ls', st')) (g : z_J Z mX5_need R k n Q 29 ls' st' h) : z_J Z mX5_need R k n Q 25 ls st h := z_jr bX5_need_25 bX5_need_25_ok hr g
theorem dX5_need_29 : decode cX5_need 29 = .ok (.getfield 26, 3) := by decide +kernel
theorem iX5_need_29 (hh : h r = some (a, .inr (6, fs))) (hv : fs[3]? = some v) (g : z_J Z mX5_need R k n Q 32 ls (v :: st) h) : z_J Z mX5_need R k n Q 29 ls (.ref a :: st) h := z_get dX5_need_29 rfl fl_X5_26 hh hv g
theorem dX5_need_32 : decode cX5_need 32 = .ok (.getfield 154, 3) := by decide +kernel
theorem iX5_need_32 (hh : h r = some (a, .inr (4, fs))) (hv : fs[1]? = some v) (g : z_J Z mX5_need R k n Q 35 ls (v :: st) h) : z_J Z mX5_need R k n Q 32 ls (.ref a :: st) h := z_get dX5_need_32 rfl fl_X5_154 hh hv g
def bX5_need_35 : zB := [(35, .iload_n 2, 36, nI 0)]
theorem bX5_need_35_ok : z_ok cX5_need 35 bX5_need_35 36 = true := by decide +kernel
theorem iX5_need_35 (hr : z_run 3 bX5_need_35 ls st = some (ls', st')) (g : z_J Z mX5_need R k n Q 36 ls' st' h) : z_J Z mX5_need R k n Q 35 ls st h := z_jr bX5_need_35 bX5_need_35_ok hr g
theorem dX5_need_36 : decode cX5_need 36 = .ok (.iaload, 1) := by decide +kernel
theorem iX5_need_36 {f : Nat → Int32} (hh : h r = some (a, .inl (0, N, .inl f))) (hi : i = nI j) (hj : j < N) (hN : N < 2 ^ 31) (g : z_J Z mX5_need R k n Q 37 ls (.int (f j) :: st) h) : z_J Z mX5_need R k n Q 36 ls (.int i :: .ref a :: st) h := z_iald dX5_need_36 rfl hh hi hj hN g
def bX5_need_37 : zB := [(37, .imul, 38, nI 0), (38, .iadd, 39, nI 0), (39, .aload_n 0, 40, nI 0)]
theorem bX5_need_37_ok : z_ok cX5_need 37 bX5_need_37 40 = true := by decide +kernel
theorem iX5_need_37 (hr : z_run 3 bX5_need_37 ls st = some (ls', st')) (g : z_J Z mX5_need R k n Q 40 ls' st' h) : z_J Z mX5_need R k n Q 37 ls st h := z_jr bX5_need_37 bX5_need_37_ok hr g
theorem dX5_need_40 : decode cX5_need 40 = .ok (.getfield 26, 3) := by decide +kernel
theorem iX5_need_40 (hh : h r = some (a, .inr (6, fs))) (hv : fs[3]? = some v) (g : z_J Z mX5_need R k n Q 43 ls (v :: st) h) : z_J Z mX5_need R k n Q 40 ls (.ref a :: st) h := z_get dX5_need_40 rfl fl_X5_26 hh hv g
theorem dX5_need_43 : decode cX5_need 43 = .ok (.getfield 157, 3) := by decide +kernel
theorem iX5_need_43 (hh : h r = some (a, .inr (4, fs))) (hv : fs[2]? = some v) (g : z_J Z mX5_need R k n Q 46 ls (v :: st) h) : z_J Z mX5_need R k n Q 43 ls (.ref a :: st) h := z_get dX5_need_43 rfl fl_X5_157 hh hv g
def bX5_need_46 : zB := [(46, .iload_n 2, 47, nI 0)]
theorem bX5_need_46_ok : z_ok cX5_need 46 bX5_need_46 47 = true := by decide +kernel
theorem iX5_need_46 (hr : z_run 3 bX5_need_46 ls st = some (ls', st')) (g : z_J Z mX5_need R k n Q 47 ls' st' h) : z_J Z mX5_need R k n Q 46 ls st h := z_jr bX5_need_46 bX5_need_46_ok hr g
theorem dX5_need_47 : decode cX5_need 47 = .ok (.iaload, 1) := by decide +kernel
theorem iX5_need_47 {f : Nat → Int32} (hh : h r = some (a, .inl (0, N, .inl f))) (hi : i = nI j) (hj : j < N) (hN : N < 2 ^ 31) (g : z_J Z mX5_need R k n Q 48 ls (.int (f j) :: st) h) : z_J Z mX5_need R k n Q 47 ls (.int i :: .ref a :: st) h := z_iald dX5_need_47 rfl hh hi hj hN g
def bX5_need_48 : zB := [(48, .iadd, 49, nI 0)]
theorem bX5_need_48_ok : z_ok cX5_need 48 bX5_need_48 49 = true := by decide +kernel
theorem iX5_need_48 (hr : z_run 3 bX5_need_48 ls st = some (ls', st')) (g : z_J Z mX5_need R k n Q 49 ls' st' h) : z_J Z mX5_need R k n Q 48 ls st h := z_jr bX5_need_48 bX5_need_48_ok hr g
theorem dX5_need_49 : decode cX5_need 49 = .ok (.ireturn, 1) := by decide +kernel
theorem iX5_need_49 (hk : k ≤ R.cells) (hs : n ≤ R.slots) (hq : Q (.inl (some (.int x))) h) : z_J Z mX5_need R k n Q 49 ls [.int x] h := z_iret (ty := .int) dX5_need_49 rfl rfl hk hs hq
/-! X5_demand -/
def bX5_demand_0 : zB := [(0, .iload_n 1, 1, nI 0)]
theorem bX5_demand_0_ok : z_ok cX5_demand 0 bX5_demand_0 1 = true := by decide +kernel
theorem iX5_demand_0 (hr : z_run 3 bX5_demand_0 ls st = some (ls', st')) (g : z_J Z mX5_demand R k n Q 1 ls' st' h) : z_J Z mX5_demand R k n Q 0 ls st h := z_jr bX5_demand_0 bX5_demand_0_ok hr g
theorem dX5_demand_1 : decode cX5_demand 1 = .ok (.invokestatic 109, 3) := by decide +kernel
theorem iX5_demand_1 (ha : z_args 1 st [] = some (As, rest)) (hc : z_chk rest As 1 = true) (hR : z_rm R R' 1 k n) (gc : z_J Z mX5_checkDay R' 0 0 Q' 0 As [] h) (kr : ∀ (v : Option Value) (h' : zH), Q' (.inl v) h' → z_J Z mX5_demand R (k + R'.cells) (n + R'.slots) Q 4 ls (v.toList ++ rest) h') (kx : ∀ (E : String) (h' : zH), Q' (.inr E) h' → z_JX Z mX5_demand R (k + R'.cells) (n + R'.slots) Q 1 ls E h') : z_J Z mX5_demand R k n Q 1 ls st h := z_callS (M' := mX5_checkDay) dX5_demand_1 rfl cs_X5_109 gw518 ha hR (z_chk1 hc) (z_chk2 hc) (z_chk3 hc) gc kr kx
def bX5_demand_4 : zB := [(4, .aload_n 0, 5, nI 0), (5, .iload_n 1, 6, nI 0)]
theorem bX5_demand_4_ok : z_ok cX5_demand 4 bX5_demand_4 6 = true := by decide +kernel
theorem iX5_demand_4 (hr : z_run 3 bX5_demand_4 ls st = some (ls', st')) (g : z_J Z mX5_demand R k n Q 6 ls' st' h) : z_J Z mX5_demand R k n Q 4 ls st h := z_jr bX5_demand_4 bX5_demand_4_ok hr g
theorem dX5_demand_6 : decode cX5_demand 6 = .ok (.invokevirtual 142, 3) := by decide +kernel
theorem iX5_demand_6 (ha : z_args 1 st [] = some (As, .ref b :: rest)) (hc : z_chk rest (.ref b :: As) 6 = true) (hh : h r = some (b, .inr (6, fs))) (hR : z_rm R R' 6 k n) (gc : z_J Z mX5_findNeeds R' 0 0 Q' 0 (.ref b :: As) [] h) (kr : ∀ (v : Option Value) (h' : zH), Q' (.inl v) h' → z_J Z mX5_demand R (k + R'.cells) (n + R'.slots) Q 9 ls (v.toList ++ rest) h') (kx : ∀ (E : String) (h' : zH), Q' (.inr E) h' → z_JX Z mX5_demand R (k + R'.cells) (n + R'.slots) Q 6 ls E h') : z_J Z mX5_demand R k n Q 6 ls st h := z_callV (M' := mX5_findNeeds) dX5_demand_6 rfl cs_X5_142 rfl gw571 gwp7 ha hh (ci := 6) rfl hR (z_chk1 hc) (z_chk2 hc) (z_chk3 hc) gc kr kx
def bX5_demand_9 : zB := [(9, .aload_n 0, 10, nI 0), (10, .iload_n 2, 11, nI 0)]
theorem bX5_demand_9_ok : z_ok cX5_demand 9 bX5_demand_9 11 = true := by decide +kernel
theorem iX5_demand_9 (hr : z_run 3 bX5_demand_9 ls st = some (ls', st')) (g : z_J Z mX5_demand R k n Q 11 ls' st' h) : z_J Z mX5_demand R k n Q 9 ls st h := z_jr bX5_demand_9 bX5_demand_9_ok hr g
theorem dX5_demand_11 : decode cX5_demand 11 = .ok (.invokevirtual 148, 3) := by decide +kernel
theorem iX5_demand_11 (ha : z_args 1 st [] = some (As, .ref b :: rest)) (hc : z_chk rest (.ref b :: As) 2 = true) (hh : h r = some (b, .inr (6, fs))) (hR : z_rm R R' 2 k n) (gc : z_J Z mX5_checkNeed R' 0 0 Q' 0 (.ref b :: As) [] h) (kr : ∀ (v : Option Value) (h' : zH), Q' (.inl v) h' → z_J Z mX5_demand R (k + R'.cells) (n + R'.slots) Q 14 ls (v.toList ++ rest) h') (kx : ∀ (E : String) (h' : zH), Q' (.inr E) h' → z_JX Z mX5_demand R (k + R'.cells) (n + R'.slots) Q 11 ls E h') : z_J Z mX5_demand R k n Q 11 ls st h := z_callV (M' := mX5_checkNeed) dX5_demand_11 rfl cs_X5_148 rfl gw599 gwp8 ha hh (ci := 6) rfl hR (z_chk1 hc) (z_chk2 hc) (z_chk3 hc) gc kr kx
def bX5_demand_14 : zB := [(14, .aload_n 0, 15, nI 0)]
theorem bX5_demand_14_ok : z_ok cX5_demand 14 bX5_demand_14 15 = true := by decide +kernel
theorem iX5_demand_14 (hr : z_run 3 bX5_demand_14 ls st = some (ls', st')) (g : z_J Z mX5_demand R k n Q 15 ls' st' h) : z_J Z mX5_demand R k n Q 14 ls st h := z_jr bX5_demand_14 bX5_demand_14_ok hr g
theorem dX5_demand_15 : decode cX5_demand 15 = .ok (.getfield 26, 3) := by decide +kernel
theorem iX5_demand_15 (hh : h r = some (a, .inr (6, fs))) (hv : fs[3]? = some v) (g : z_J Z mX5_demand R k n Q 18 ls (v :: st) h) : z_J Z mX5_demand R k n Q 15 ls (.ref a :: st) h := z_get dX5_demand_15 rfl fl_X5_26 hh hv g
theorem dX5_demand_18 : decode cX5_demand 18 = .ok (.getfield 160, 3) := by decide +kernel
theorem iX5_demand_18 (hh : h r = some (a, .inr (4, fs))) (hv : fs[3]? = some v) (g : z_J Z mX5_demand R k n Q 21 ls (v :: st) h) : z_J Z mX5_demand R k n Q 18 ls (.ref a :: st) h := z_get dX5_demand_18 rfl fl_X5_160 hh hv g
def bX5_demand_21 : zB := [(21, .iload_n 2, 22, nI 0)]
theorem bX5_demand_21_ok : z_ok cX5_demand 21 bX5_demand_21 22 = true := by decide +kernel
theorem iX5_demand_21 (hr : z_run 3 bX5_demand_21 ls st = some (ls', st')) (g : z_J Z mX5_demand R k n Q 22 ls' st' h) : z_J Z mX5_demand R k n Q 21 ls st h := z_jr bX5_demand_21 bX5_demand_21_ok hr g
theorem dX5_demand_22 : decode cX5_demand 22 = .ok (.iaload, 1) := by decide +kernel
theorem iX5_demand_22 {f : Nat → Int32} (hh : h r = some (a, .inl (0, N, .inl f))) (hi : i = nI j) (hj : j < N) (hN : N < 2 ^ 31) (g : z_J Z mX5_demand R k n Q 23 ls (.int (f j) :: st) h) : z_J Z mX5_demand R k n Q 22 ls (.int i :: .ref a :: st) h := z_iald dX5_demand_22 rfl hh hi hj hN g
theorem dX5_demand_23 : decode cX5_demand 23 = .ok (.ireturn, 1) := by decide +kernel
theorem iX5_demand_23 (hk : k ≤ R.cells) (hs : n ≤ R.slots) (hq : Q (.inl (some (.int x))) h) : z_J Z mX5_demand R k n Q 23 ls [.int x] h := z_iret (ty := .int) dX5_demand_23 rfl rfl hk hs hq
/-! X5_gets -/
def bX5_gets_0 : zB := [(0, .iload_n 1, 1, nI 0)]
theorem bX5_gets_0_ok : z_ok cX5_gets 0 bX5_gets_0 1 = true := by decide +kernel
theorem iX5_gets_0 (hr : z_run 3 bX5_gets_0 ls st = some (ls', st')) (g : z_J Z mX5_gets R k n Q 1 ls' st' h) : z_J Z mX5_gets R k n Q 0 ls st h := z_jr bX5_gets_0 bX5_gets_0_ok hr g
theorem dX5_gets_1 : decode cX5_gets 1 = .ok (.invokestatic 109, 3) := by decide +kernel
theorem iX5_gets_1 (ha : z_args 1 st [] = some (As, rest)) (hc : z_chk rest As 1 = true) (hR : z_rm R R' 1 k n) (gc : z_J Z mX5_checkDay R' 0 0 Q' 0 As [] h) (kr : ∀ (v : Option Value) (h' : zH), Q' (.inl v) h' → z_J Z mX5_gets R (k + R'.cells) (n + R'.slots) Q 4 ls (v.toList ++ rest) h') (kx : ∀ (E : String) (h' : zH), Q' (.inr E) h' → z_JX Z mX5_gets R (k + R'.cells) (n + R'.slots) Q 1 ls E h') : z_J Z mX5_gets R k n Q 1 ls st h := z_callS (M' := mX5_checkDay) dX5_gets_1 rfl cs_X5_109 gw518 ha hR (z_chk1 hc) (z_chk2 hc) (z_chk3 hc) gc kr kx
def bX5_gets_4 : zB := [(4, .aload_n 0, 5, nI 0), (5, .iload_n 1, 6, nI 0)]
theorem bX5_gets_4_ok : z_ok cX5_gets 4 bX5_gets_4 6 = true := by decide +kernel
theorem iX5_gets_4 (hr : z_run 3 bX5_gets_4 ls st = some (ls', st')) (g : z_J Z mX5_gets R k n Q 6 ls' st' h) : z_J Z mX5_gets R k n Q 4 ls st h := z_jr bX5_gets_4 bX5_gets_4_ok hr g
theorem dX5_gets_6 : decode cX5_gets 6 = .ok (.invokevirtual 142, 3) := by decide +kernel
theorem iX5_gets_6 (ha : z_args 1 st [] = some (As, .ref b :: rest)) (hc : z_chk rest (.ref b :: As) 6 = true) (hh : h r = some (b, .inr (6, fs))) (hR : z_rm R R' 6 k n) (gc : z_J Z mX5_findNeeds R' 0 0 Q' 0 (.ref b :: As) [] h) (kr : ∀ (v : Option Value) (h' : zH), Q' (.inl v) h' → z_J Z mX5_gets R (k + R'.cells) (n + R'.slots) Q 9 ls (v.toList ++ rest) h') (kx : ∀ (E : String) (h' : zH), Q' (.inr E) h' → z_JX Z mX5_gets R (k + R'.cells) (n + R'.slots) Q 6 ls E h') : z_J Z mX5_gets R k n Q 6 ls st h := z_callV (M' := mX5_findNeeds) dX5_gets_6 rfl cs_X5_142 rfl gw571 gwp7 ha hh (ci := 6) rfl hR (z_chk1 hc) (z_chk2 hc) (z_chk3 hc) gc kr kx
def bX5_gets_9 : zB := [(9, .aload_n 0, 10, nI 0), (10, .iload_n 2, 11, nI 0)]
theorem bX5_gets_9_ok : z_ok cX5_gets 9 bX5_gets_9 11 = true := by decide +kernel
theorem iX5_gets_9 (hr : z_run 3 bX5_gets_9 ls st = some (ls', st')) (g : z_J Z mX5_gets R k n Q 11 ls' st' h) : z_J Z mX5_gets R k n Q 9 ls st h := z_jr bX5_gets_9 bX5_gets_9_ok hr g
theorem dX5_gets_11 : decode cX5_gets 11 = .ok (.invokevirtual 148, 3) := by decide +kernel
theorem iX5_gets_11 (ha : z_args 1 st [] = some (As, .ref b :: rest)) (hc : z_chk rest (.ref b :: As) 2 = true) (hh : h r = some (b, .inr (6, fs))) (hR : z_rm R R' 2 k n) (gc : z_J Z mX5_checkNeed R' 0 0 Q' 0 (.ref b :: As) [] h) (kr : ∀ (v : Option Value) (h' : zH), Q' (.inl v) h' → z_J Z mX5_gets R (k + R'.cells) (n + R'.slots) Q 14 ls (v.toList ++ rest) h') (kx : ∀ (E : String) (h' : zH), Q' (.inr E) h' → z_JX Z mX5_gets R (k + R'.cells) (n + R'.slots) Q 11 ls E h') : z_J Z mX5_gets R k n Q 11 ls st h := z_callV (M' := mX5_checkNeed) dX5_gets_11 rfl cs_X5_148 rfl gw599 gwp8 ha hh (ci := 6) rfl hR (z_chk1 hc) (z_chk2 hc) (z_chk3 hc) gc kr kx
def bX5_gets_14 : zB := [(14, .aload_n 0, 15, nI 0), (15, .iload_n 2, 16, nI 0), (16, .iload_n 1, 17, nI 0)]
theorem bX5_gets_14_ok : z_ok cX5_gets 14 bX5_gets_14 17 = true := by decide +kernel
theorem iX5_gets_14 (hr : z_run 3 bX5_gets_14 ls st = some (ls', st')) (g : z_J Z mX5_gets R k n Q 17 ls' st' h) : z_J Z mX5_gets R k n Q 14 ls st h := z_jr bX5_gets_14 bX5_gets_14_ok hr g
theorem dX5_gets_17 : decode cX5_gets 17 = .ok (.invokevirtual 163, 3) := by decide +kernel
theorem iX5_gets_17 (ha : z_args 2 st [] = some (As, .ref b :: rest)) (hc : z_chk rest (.ref b :: As) 5 = true) (hh : h r = some (b, .inr (6, fs))) (hR : z_rm R R' 5 k n) (gc : z_J Z mX5_serveFirst R' 0 0 Q' 0 (.ref b :: As) [] h) (kr : ∀ (v : Option Value) (h' : zH), Q' (.inl v) h' → z_J Z mX5_gets R (k + R'.cells) (n + R'.slots) Q 20 ls (v.toList ++ rest) h') (kx : ∀ (E : String) (h' : zH), Q' (.inr E) h' → z_JX Z mX5_gets R (k + R'.cells) (n + R'.slots) Q 17 ls E h') : z_J Z mX5_gets R k n Q 17 ls st h := z_callV (M' := mX5_serveFirst) dX5_gets_17 rfl cs_X5_163 rfl gw618 gwp9 ha hh (ci := 6) rfl hR (z_chk1 hc) (z_chk2 hc) (z_chk3 hc) gc kr kx
def bX5_gets_20 : zB := [(20, .pop, 21, nI 0), (21, .aload_n 0, 22, nI 0)]
theorem bX5_gets_20_ok : z_ok cX5_gets 20 bX5_gets_20 22 = true := by decide +kernel
theorem iX5_gets_20 (hr : z_run 3 bX5_gets_20 ls st = some (ls', st')) (g : z_J Z mX5_gets R k n Q 22 ls' st' h) : z_J Z mX5_gets R k n Q 20 ls st h := z_jr bX5_gets_20 bX5_gets_20_ok hr g
theorem dX5_gets_22 : decode cX5_gets 22 = .ok (.getfield 33, 3) := by decide +kernel
theorem iX5_gets_22 (hh : h r = some (a, .inr (6, fs))) (hv : fs[4]? = some v) (g : z_J Z mX5_gets R k n Q 25 ls (v :: st) h) : z_J Z mX5_gets R k n Q 22 ls (.ref a :: st) h := z_get dX5_gets_22 rfl fl_X5_33 hh hv g
def bX5_gets_25 : zB := [(25, .aload_n 0, 26, nI 0)]
theorem bX5_gets_25_ok : z_ok cX5_gets 25 bX5_gets_25 26 = true := by decide +kernel
theorem iX5_gets_25 (hr : z_run 3 bX5_gets_25 ls st = some (ls', st')) (g : z_J Z mX5_gets R k n Q 26 ls' st' h) : z_J Z mX5_gets R k n Q 25 ls st h := z_jr bX5_gets_25 bX5_gets_25_ok hr g
theorem dX5_gets_26 : decode cX5_gets 26 = .ok (.getfield 26, 3) := by decide +kernel
theorem iX5_gets_26 (hh : h r = some (a, .inr (6, fs))) (hv : fs[3]? = some v) (g : z_J Z mX5_gets R k n Q 29 ls (v :: st) h) : z_J Z mX5_gets R k n Q 26 ls (.ref a :: st) h := z_get dX5_gets_26 rfl fl_X5_26 hh hv g
theorem dX5_gets_29 : decode cX5_gets 29 = .ok (.getfield 167, 3) := by decide +kernel
theorem iX5_gets_29 (hh : h r = some (a, .inr (4, fs))) (hv : fs[4]? = some v) (g : z_J Z mX5_gets R k n Q 32 ls (v :: st) h) : z_J Z mX5_gets R k n Q 29 ls (.ref a :: st) h := z_get dX5_gets_29 rfl fl_X5_167 hh hv g
def bX5_gets_32 : zB := [(32, .iload_n 2, 33, nI 0)]
theorem bX5_gets_32_ok : z_ok cX5_gets 32 bX5_gets_32 33 = true := by decide +kernel
theorem iX5_gets_32 (hr : z_run 3 bX5_gets_32 ls st = some (ls', st')) (g : z_J Z mX5_gets R k n Q 33 ls' st' h) : z_J Z mX5_gets R k n Q 32 ls st h := z_jr bX5_gets_32 bX5_gets_32_ok hr g
theorem dX5_gets_33 : decode cX5_gets 33 = .ok (.iaload, 1) := by decide +kernel
theorem iX5_gets_33 {f : Nat → Int32} (hh : h r = some (a, .inl (0, N, .inl f))) (hi : i = nI j) (hj : j < N) (hN : N < 2 ^ 31) (g : z_J Z mX5_gets R k n Q 34 ls (.int (f j) :: st) h) : z_J Z mX5_gets R k n Q 33 ls (.int i :: .ref a :: st) h := z_iald dX5_gets_33 rfl hh hi hj hN g
def bX5_gets_34 : zB := [(34, .aload_n 0, 35, nI 0)]
theorem bX5_gets_34_ok : z_ok cX5_gets 34 bX5_gets_34 35 = true := by decide +kernel
theorem iX5_gets_34 (hr : z_run 3 bX5_gets_34 ls st = some (ls', st')) (g : z_J Z mX5_gets R k n Q 35 ls' st' h) : z_J Z mX5_gets R k n Q 34 ls st h := z_jr bX5_gets_34 bX5_gets_34_ok hr g
theorem dX5_gets_35 : decode cX5_gets 35 = .ok (.getfield 26, 3) := by decide +kernel
theorem iX5_gets_35 (hh : h r = some (a, .inr (6, fs))) (hv : fs[3]? = some v) (g : z_J Z mX5_gets R k n Q 38 ls (v :: st) h) : z_J Z mX5_gets R k n Q 35 ls (.ref a :: st) h := z_get dX5_gets_35 rfl fl_X5_26 hh hv g
theorem dX5_gets_38 : decode cX5_gets 38 = .ok (.getfield 160, 3) := by decide +kernel
theorem iX5_gets_38 (hh : h r = some (a, .inr (4, fs))) (hv : fs[3]? = some v) (g : z_J Z mX5_gets R k n Q 41 ls (v :: st) h) : z_J Z mX5_gets R k n Q 38 ls (.ref a :: st) h := z_get dX5_gets_38 rfl fl_X5_160 hh hv g
def bX5_gets_41 : zB := [(41, .iload_n 2, 42, nI 0)]
theorem bX5_gets_41_ok : z_ok cX5_gets 41 bX5_gets_41 42 = true := by decide +kernel
theorem iX5_gets_41 (hr : z_run 3 bX5_gets_41 ls st = some (ls', st')) (g : z_J Z mX5_gets R k n Q 42 ls' st' h) : z_J Z mX5_gets R k n Q 41 ls st h := z_jr bX5_gets_41 bX5_gets_41_ok hr g
theorem dX5_gets_42 : decode cX5_gets 42 = .ok (.iaload, 1) := by decide +kernel
theorem iX5_gets_42 {f : Nat → Int32} (hh : h r = some (a, .inl (0, N, .inl f))) (hi : i = nI j) (hj : j < N) (hN : N < 2 ^ 31) (g : z_J Z mX5_gets R k n Q 43 ls (.int (f j) :: st) h) : z_J Z mX5_gets R k n Q 42 ls (.int i :: .ref a :: st) h := z_iald dX5_gets_42 rfl hh hi hj hN g
theorem dX5_gets_43 : decode cX5_gets 43 = .ok (.invokevirtual 170, 3) := by decide +kernel
theorem iX5_gets_43 (ha : z_args 2 st [] = some (As, .ref b :: rest)) (hc : z_chk rest (.ref b :: As) 7 = true) (hh : h r = some (b, .inr (1, fs))) (hR : z_rm R R' 7 k n) (gc : z_J Z mX0_serve R' 0 0 Q' 0 (.ref b :: As) [] h) (kr : ∀ (v : Option Value) (h' : zH), Q' (.inl v) h' → z_J Z mX5_gets R (k + R'.cells) (n + R'.slots) Q 46 ls (v.toList ++ rest) h') (kx : ∀ (E : String) (h' : zH), Q' (.inr E) h' → z_JX Z mX5_gets R (k + R'.cells) (n + R'.slots) Q 43 ls E h') : z_J Z mX5_gets R k n Q 43 ls st h := z_callV (M' := mX0_serve) dX5_gets_43 rfl cs_X5_170 rfl gw644 gw645 ha hh (ci := 1) rfl hR (z_chk1 hc) (z_chk2 hc) (z_chk3 hc) gc kr kx
theorem dX5_gets_46 : decode cX5_gets 46 = .ok (.ireturn, 1) := by decide +kernel
theorem iX5_gets_46 (hk : k ≤ R.cells) (hs : n ≤ R.slots) (hq : Q (.inl (some (.int x))) h) : z_J Z mX5_gets R k n Q 46 ls [.int x] h := z_iret (ty := .int) dX5_gets_46 rfl rfl hk hs hq
/-! X5_lack -/
def bX5_lack_0 : zB := [(0, .iload_n 1, 1, nI 0)]
theorem bX5_lack_0_ok : z_ok cX5_lack 0 bX5_lack_0 1 = true := by decide +kernel
theorem iX5_lack_0 (hr : z_run 2 bX5_lack_0 ls st = some (ls', st')) (g : z_J Z mX5_lack R k n Q 1 ls' st' h) : z_J Z mX5_lack R k n Q 0 ls st h := z_jr bX5_lack_0 bX5_lack_0_ok hr g
theorem dX5_lack_1 : decode cX5_lack 1 = .ok (.invokestatic 109, 3) := by decide +kernel
theorem iX5_lack_1 (ha : z_args 1 st [] = some (As, rest)) (hc : z_chk rest As 1 = true) (hR : z_rm R R' 1 k n) (gc : z_J Z mX5_checkDay R' 0 0 Q' 0 As [] h) (kr : ∀ (v : Option Value) (h' : zH), Q' (.inl v) h' → z_J Z mX5_lack R (k + R'.cells) (n + R'.slots) Q 4 ls (v.toList ++ rest) h') (kx : ∀ (E : String) (h' : zH), Q' (.inr E) h' → z_JX Z mX5_lack R (k + R'.cells) (n + R'.slots) Q 1 ls E h') : z_J Z mX5_lack R k n Q 1 ls st h := z_callS (M' := mX5_checkDay) dX5_lack_1 rfl cs_X5_109 gw518 ha hR (z_chk1 hc) (z_chk2 hc) (z_chk3 hc) gc kr kx
def bX5_lack_4 : zB := [(4, .aload_n 0, 5, nI 0), (5, .iload_n 1, 6, nI 0)]
theorem bX5_lack_4_ok : z_ok cX5_lack 4 bX5_lack_4 6 = true := by decide +kernel
theorem iX5_lack_4 (hr : z_run 2 bX5_lack_4 ls st = some (ls', st')) (g : z_J Z mX5_lack R k n Q 6 ls' st' h) : z_J Z mX5_lack R k n Q 4 ls st h := z_jr bX5_lack_4 bX5_lack_4_ok hr g
theorem dX5_lack_6 : decode cX5_lack 6 = .ok (.invokevirtual 142, 3) := by decide +kernel
theorem iX5_lack_6 (ha : z_args 1 st [] = some (As, .ref b :: rest)) (hc : z_chk rest (.ref b :: As) 6 = true) (hh : h r = some (b, .inr (6, fs))) (hR : z_rm R R' 6 k n) (gc : z_J Z mX5_findNeeds R' 0 0 Q' 0 (.ref b :: As) [] h) (kr : ∀ (v : Option Value) (h' : zH), Q' (.inl v) h' → z_J Z mX5_lack R (k + R'.cells) (n + R'.slots) Q 9 ls (v.toList ++ rest) h') (kx : ∀ (E : String) (h' : zH), Q' (.inr E) h' → z_JX Z mX5_lack R (k + R'.cells) (n + R'.slots) Q 6 ls E h') : z_J Z mX5_lack R k n Q 6 ls st h := z_callV (M' := mX5_findNeeds) dX5_lack_6 rfl cs_X5_142 rfl gw571 gwp7 ha hh (ci := 6) rfl hR (z_chk1 hc) (z_chk2 hc) (z_chk3 hc) gc kr kx
def bX5_lack_9 : zB := [(9, .aload_n 0, 10, nI 0)]
theorem bX5_lack_9_ok : z_ok cX5_lack 9 bX5_lack_9 10 = true := by decide +kernel
theorem iX5_lack_9 (hr : z_run 2 bX5_lack_9 ls st = some (ls', st')) (g : z_J Z mX5_lack R k n Q 10 ls' st' h) : z_J Z mX5_lack R k n Q 9 ls st h := z_jr bX5_lack_9 bX5_lack_9_ok hr g
theorem dX5_lack_10 : decode cX5_lack 10 = .ok (.getfield 26, 3) := by decide +kernel
theorem iX5_lack_10 (hh : h r = some (a, .inr (6, fs))) (hv : fs[3]? = some v) (g : z_J Z mX5_lack R k n Q 13 ls (v :: st) h) : z_J Z mX5_lack R k n Q 10 ls (.ref a :: st) h := z_get dX5_lack_10 rfl fl_X5_26 hh hv g
theorem dX5_lack_13 : decode cX5_lack 13 = .ok (.invokevirtual 173, 3) := by decide +kernel
theorem iX5_lack_13 (ha : z_args 0 st [] = some (As, .ref b :: rest)) (hc : z_chk rest (.ref b :: As) 3 = true) (hh : h r = some (b, .inr (4, fs))) (hR : z_rm R R' 3 k n) (gc : z_J Z mX3_demandOfAll R' 0 0 Q' 0 (.ref b :: As) [] h) (kr : ∀ (v : Option Value) (h' : zH), Q' (.inl v) h' → z_J Z mX5_lack R (k + R'.cells) (n + R'.slots) Q 16 ls (v.toList ++ rest) h') (kx : ∀ (E : String) (h' : zH), Q' (.inr E) h' → z_JX Z mX5_lack R (k + R'.cells) (n + R'.slots) Q 13 ls E h') : z_J Z mX5_lack R k n Q 13 ls st h := z_callV (M' := mX3_demandOfAll) dX5_lack_13 rfl cs_X5_173 rfl gw673 gw674 ha hh (ci := 4) rfl hR (z_chk1 hc) (z_chk2 hc) (z_chk3 hc) gc kr kx
def bX5_lack_16 : zB := [(16, .aload_n 0, 17, nI 0), (17, .aload_n 0, 18, nI 0)]
theorem bX5_lack_16_ok : z_ok cX5_lack 16 bX5_lack_16 18 = true := by decide +kernel
theorem iX5_lack_16 (hr : z_run 2 bX5_lack_16 ls st = some (ls', st')) (g : z_J Z mX5_lack R k n Q 18 ls' st' h) : z_J Z mX5_lack R k n Q 16 ls st h := z_jr bX5_lack_16 bX5_lack_16_ok hr g
theorem dX5_lack_18 : decode cX5_lack 18 = .ok (.getfield 26, 3) := by decide +kernel
theorem iX5_lack_18 (hh : h r = some (a, .inr (6, fs))) (hv : fs[3]? = some v) (g : z_J Z mX5_lack R k n Q 21 ls (v :: st) h) : z_J Z mX5_lack R k n Q 18 ls (.ref a :: st) h := z_get dX5_lack_18 rfl fl_X5_26 hh hv g
theorem dX5_lack_21 : decode cX5_lack 21 = .ok (.getfield 145, 3) := by decide +kernel
theorem iX5_lack_21 (hh : h r = some (a, .inr (4, fs))) (hv : fs[5]? = some v) (g : z_J Z mX5_lack R k n Q 24 ls (v :: st) h) : z_J Z mX5_lack R k n Q 21 ls (.ref a :: st) h := z_get dX5_lack_21 rfl fl_X5_145 hh hv g
def bX5_lack_24 : zB := [(24, .iload_n 1, 25, nI 0)]
theorem bX5_lack_24_ok : z_ok cX5_lack 24 bX5_lack_24 25 = true := by decide +kernel
theorem iX5_lack_24 (hr : z_run 2 bX5_lack_24 ls st = some (ls', st')) (g : z_J Z mX5_lack R k n Q 25 ls' st' h) : z_J Z mX5_lack R k n Q 24 ls st h := z_jr bX5_lack_24 bX5_lack_24_ok hr g
theorem dX5_lack_25 : decode cX5_lack 25 = .ok (.invokevirtual 163, 3) := by decide +kernel
theorem iX5_lack_25 (ha : z_args 2 st [] = some (As, .ref b :: rest)) (hc : z_chk rest (.ref b :: As) 5 = true) (hh : h r = some (b, .inr (6, fs))) (hR : z_rm R R' 5 k n) (gc : z_J Z mX5_serveFirst R' 0 0 Q' 0 (.ref b :: As) [] h) (kr : ∀ (v : Option Value) (h' : zH), Q' (.inl v) h' → z_J Z mX5_lack R (k + R'.cells) (n + R'.slots) Q 28 ls (v.toList ++ rest) h') (kx : ∀ (E : String) (h' : zH), Q' (.inr E) h' → z_JX Z mX5_lack R (k + R'.cells) (n + R'.slots) Q 25 ls E h') : z_J Z mX5_lack R k n Q 25 ls st h := z_callV (M' := mX5_serveFirst) dX5_lack_25 rfl cs_X5_163 rfl gw618 gwp9 ha hh (ci := 6) rfl hR (z_chk1 hc) (z_chk2 hc) (z_chk3 hc) gc kr kx
def bX5_lack_28 : zB := [(28, .isub, 29, nI 0)]
theorem bX5_lack_28_ok : z_ok cX5_lack 28 bX5_lack_28 29 = true := by decide +kernel
theorem iX5_lack_28 (hr : z_run 2 bX5_lack_28 ls st = some (ls', st')) (g : z_J Z mX5_lack R k n Q 29 ls' st' h) : z_J Z mX5_lack R k n Q 28 ls st h := z_jr bX5_lack_28 bX5_lack_28_ok hr g
theorem dX5_lack_29 : decode cX5_lack 29 = .ok (.ireturn, 1) := by decide +kernel
theorem iX5_lack_29 (hk : k ≤ R.cells) (hs : n ≤ R.slots) (hq : Q (.inl (some (.int x))) h) : z_J Z mX5_lack R k n Q 29 ls [.int x] h := z_iret (ty := .int) dX5_lack_29 rfl rfl hk hs hq
/-! X5_lackBySets -/
def bX5_lackBySets_0 : zB := [(0, .iload_n 1, 1, nI 0)]
theorem bX5_lackBySets_0_ok : z_ok cX5_lackBySets 0 bX5_lackBySets_0 1 = true := by decide +kernel
theorem iX5_lackBySets_0 (hr : z_run 4 bX5_lackBySets_0 ls st = some (ls', st')) (g : z_J Z mX5_lackBySets R k n Q 1 ls' st' h) : z_J Z mX5_lackBySets R k n Q 0 ls st h := z_jr bX5_lackBySets_0 bX5_lackBySets_0_ok hr g
theorem dX5_lackBySets_1 : decode cX5_lackBySets 1 = .ok (.invokestatic 109, 3) := by decide +kernel
theorem iX5_lackBySets_1 (ha : z_args 1 st [] = some (As, rest)) (hc : z_chk rest As 1 = true) (hR : z_rm R R' 1 k n) (gc : z_J Z mX5_checkDay R' 0 0 Q' 0 As [] h) (kr : ∀ (v : Option Value) (h' : zH), Q' (.inl v) h' → z_J Z mX5_lackBySets R (k + R'.cells) (n + R'.slots) Q 4 ls (v.toList ++ rest) h') (kx : ∀ (E : String) (h' : zH), Q' (.inr E) h' → z_JX Z mX5_lackBySets R (k + R'.cells) (n + R'.slots) Q 1 ls E h') : z_J Z mX5_lackBySets R k n Q 1 ls st h := z_callS (M' := mX5_checkDay) dX5_lackBySets_1 rfl cs_X5_109 gw518 ha hR (z_chk1 hc) (z_chk2 hc) (z_chk3 hc) gc kr kx
def bX5_lackBySets_4 : zB := [(4, .aload_n 0, 5, nI 0), (5, .iload_n 1, 6, nI 0)]
theorem bX5_lackBySets_4_ok : z_ok cX5_lackBySets 4 bX5_lackBySets_4 6 = true := by decide +kernel
theorem iX5_lackBySets_4 (hr : z_run 4 bX5_lackBySets_4 ls st = some (ls', st')) (g : z_J Z mX5_lackBySets R k n Q 6 ls' st' h) : z_J Z mX5_lackBySets R k n Q 4 ls st h := z_jr bX5_lackBySets_4 bX5_lackBySets_4_ok hr g
theorem dX5_lackBySets_6 : decode cX5_lackBySets 6 = .ok (.invokevirtual 142, 3) := by decide +kernel
theorem iX5_lackBySets_6 (ha : z_args 1 st [] = some (As, .ref b :: rest)) (hc : z_chk rest (.ref b :: As) 6 = true) (hh : h r = some (b, .inr (6, fs))) (hR : z_rm R R' 6 k n) (gc : z_J Z mX5_findNeeds R' 0 0 Q' 0 (.ref b :: As) [] h) (kr : ∀ (v : Option Value) (h' : zH), Q' (.inl v) h' → z_J Z mX5_lackBySets R (k + R'.cells) (n + R'.slots) Q 9 ls (v.toList ++ rest) h') (kx : ∀ (E : String) (h' : zH), Q' (.inr E) h' → z_JX Z mX5_lackBySets R (k + R'.cells) (n + R'.slots) Q 6 ls E h') : z_J Z mX5_lackBySets R k n Q 6 ls st h := z_callV (M' := mX5_findNeeds) dX5_lackBySets_6 rfl cs_X5_142 rfl gw571 gwp7 ha hh (ci := 6) rfl hR (z_chk1 hc) (z_chk2 hc) (z_chk3 hc) gc kr kx
def bX5_lackBySets_9 : zB := [(9, .aload_n 0, 10, nI 0)]
theorem bX5_lackBySets_9_ok : z_ok cX5_lackBySets 9 bX5_lackBySets_9 10 = true := by decide +kernel
theorem iX5_lackBySets_9 (hr : z_run 4 bX5_lackBySets_9 ls st = some (ls', st')) (g : z_J Z mX5_lackBySets R k n Q 10 ls' st' h) : z_J Z mX5_lackBySets R k n Q 9 ls st h := z_jr bX5_lackBySets_9 bX5_lackBySets_9_ok hr g
theorem dX5_lackBySets_10 : decode cX5_lackBySets 10 = .ok (.getfield 26, 3) := by decide +kernel
theorem iX5_lackBySets_10 (hh : h r = some (a, .inr (6, fs))) (hv : fs[3]? = some v) (g : z_J Z mX5_lackBySets R k n Q 13 ls (v :: st) h) : z_J Z mX5_lackBySets R k n Q 10 ls (.ref a :: st) h := z_get dX5_lackBySets_10 rfl fl_X5_26 hh hv g
theorem dX5_lackBySets_13 : decode cX5_lackBySets 13 = .ok (.getfield 145, 3) := by decide +kernel
theorem iX5_lackBySets_13 (hh : h r = some (a, .inr (4, fs))) (hv : fs[5]? = some v) (g : z_J Z mX5_lackBySets R k n Q 16 ls (v :: st) h) : z_J Z mX5_lackBySets R k n Q 13 ls (.ref a :: st) h := z_get dX5_lackBySets_13 rfl fl_X5_145 hh hv g
def bX5_lackBySets_16 : zB := [(16, .bipush 10, 18, nI 10)]
theorem bX5_lackBySets_16_ok : z_ok cX5_lackBySets 16 bX5_lackBySets_16 18 = true := by decide +kernel
theorem iX5_lackBySets_16 (hr : z_run 4 bX5_lackBySets_16 ls st = some (ls', st')) (g : z_J Z mX5_lackBySets R k n Q 18 ls' st' h) : z_J Z mX5_lackBySets R k n Q 16 ls st h := z_jr bX5_lackBySets_16 bX5_lackBySets_16_ok hr g
theorem dX5_lackBySets_18 : decode cX5_lackBySets 18 = .ok (.if_icmp .le 13, 3) := by decide +kernel
theorem iX5_lackBySets_18 (kt : x ≤ y → z_J Z mX5_lackBySets R k n Q 31 ls st h) (kf : ¬ x ≤ y → z_J Z mX5_lackBySets R k n Q 21 ls st h) : z_J Z mX5_lackBySets R k n Q 18 ls (.int y :: .int x :: st) h := z_ic_le dX5_lackBySets_18 (tgt := 31) (by decide) rfl kt kf
theorem dX5_lackBySets_21 : decode cX5_lackBySets 21 = .ok (.new 51, 3) := by decide +kernel
theorem dX5_lackBySets_24 : decode cX5_lackBySets 24 = .ok (.dup, 1) := by decide +kernel
theorem dX5_lackBySets_25 : decode cX5_lackBySets 25 = .ok (.ldc 176, 2) := by decide +kernel
theorem dX5_lackBySets_27 : decode cX5_lackBySets 27 = .ok (.invokespecial 55, 3) := by decide +kernel
theorem dX5_lackBySets_30 : decode cX5_lackBySets 30 = .ok (.athrow, 1) := by decide +kernel
theorem iX5_lackBySets_21 (hRf : 5 < R.frames) (hRl : (st.map fun v => v.category).sum + 82 ≤ R.locals) (hRc : k + 1 ≤ R.cells) (hRs : n + 6 ≤ R.slots) (hq : Q (.inr "java/lang/IllegalStateException") h) : z_J Z mX5_lackBySets R k n Q 21 ls st h := z_throw (names := ["java/lang/RuntimeException", "java/lang/Exception"]) (text := "the day has more than 10 needs") rfl dX5_lackBySets_21 dX5_lackBySets_24 dX5_lackBySets_25 dX5_lackBySets_27 dX5_lackBySets_30 (by decide +kernel) (by decide +kernel) gw270 gw44 (by decide +kernel) at_X5_55 at_X5_55_g hRf hRl hRc hRs hq
def bX5_lackBySets_31 : zB := [(31, .aload_n 0, 32, nI 0), (32, .iload_n 1, 33, nI 0)]
theorem bX5_lackBySets_31_ok : z_ok cX5_lackBySets 31 bX5_lackBySets_31 33 = true := by decide +kernel
theorem iX5_lackBySets_31 (hr : z_run 4 bX5_lackBySets_31 ls st = some (ls', st')) (g : z_J Z mX5_lackBySets R k n Q 33 ls' st' h) : z_J Z mX5_lackBySets R k n Q 31 ls st h := z_jr bX5_lackBySets_31 bX5_lackBySets_31_ok hr g
theorem dX5_lackBySets_33 : decode cX5_lackBySets 33 = .ok (.invokevirtual 178, 3) := by decide +kernel
theorem iX5_lackBySets_33 (ha : z_args 1 st [] = some (As, .ref b :: rest)) (hc : z_chk rest (.ref b :: As) 3 = true) (hh : h r = some (b, .inr (6, fs))) (hR : z_rm R R' 3 k n) (gc : z_J Z mX5_findGivers R' 0 0 Q' 0 (.ref b :: As) [] h) (kr : ∀ (v : Option Value) (h' : zH), Q' (.inl v) h' → z_J Z mX5_lackBySets R (k + R'.cells) (n + R'.slots) Q 36 ls (v.toList ++ rest) h') (kx : ∀ (E : String) (h' : zH), Q' (.inr E) h' → z_JX Z mX5_lackBySets R (k + R'.cells) (n + R'.slots) Q 33 ls E h') : z_J Z mX5_lackBySets R k n Q 33 ls st h := z_callV (M' := mX5_findGivers) dX5_lackBySets_33 rfl cs_X5_178 rfl gw622 gwp10 ha hh (ci := 6) rfl hR (z_chk1 hc) (z_chk2 hc) (z_chk3 hc) gc kr kx
def bX5_lackBySets_36 : zB := [(36, .iconst 0, 37, nI 0), (37, .istore_n 2, 38, nI 0), (38, .iconst 0, 39, nI 0), (39, .istore_n 3, 40, nI 0)]
theorem bX5_lackBySets_36_ok : z_ok cX5_lackBySets 36 bX5_lackBySets_36 40 = true := by decide +kernel
theorem iX5_lackBySets_36 (hr : z_run 4 bX5_lackBySets_36 ls st = some (ls', st')) (g : z_J Z mX5_lackBySets R k n Q 40 ls' st' h) : z_J Z mX5_lackBySets R k n Q 36 ls st h := z_jr bX5_lackBySets_36 bX5_lackBySets_36_ok hr g
def bX5_lackBySets_40 : zB := [(40, .iload_n 3, 41, nI 0), (41, .iconst 1, 42, nI 1), (42, .aload_n 0, 43, nI 0)]
theorem bX5_lackBySets_40_ok : z_ok cX5_lackBySets 40 bX5_lackBySets_40 43 = true := by decide +kernel
theorem iX5_lackBySets_40 (hr : z_run 4 bX5_lackBySets_40 ls st = some (ls', st')) (g : z_J Z mX5_lackBySets R k n Q 43 ls' st' h) : z_J Z mX5_lackBySets R k n Q 40 ls st h := z_jr bX5_lackBySets_40 bX5_lackBySets_40_ok hr g
theorem dX5_lackBySets_43 : decode cX5_lackBySets 43 = .ok (.getfield 26, 3) := by decide +kernel
theorem iX5_lackBySets_43 (hh : h r = some (a, .inr (6, fs))) (hv : fs[3]? = some v) (g : z_J Z mX5_lackBySets R k n Q 46 ls (v :: st) h) : z_J Z mX5_lackBySets R k n Q 43 ls (.ref a :: st) h := z_get dX5_lackBySets_43 rfl fl_X5_26 hh hv g
theorem dX5_lackBySets_46 : decode cX5_lackBySets 46 = .ok (.getfield 145, 3) := by decide +kernel
theorem iX5_lackBySets_46 (hh : h r = some (a, .inr (4, fs))) (hv : fs[5]? = some v) (g : z_J Z mX5_lackBySets R k n Q 49 ls (v :: st) h) : z_J Z mX5_lackBySets R k n Q 46 ls (.ref a :: st) h := z_get dX5_lackBySets_46 rfl fl_X5_145 hh hv g
def bX5_lackBySets_49 : zB := [(49, .ishl, 50, nI 0)]
theorem bX5_lackBySets_49_ok : z_ok cX5_lackBySets 49 bX5_lackBySets_49 50 = true := by decide +kernel
theorem iX5_lackBySets_49 (hr : z_run 4 bX5_lackBySets_49 ls st = some (ls', st')) (g : z_J Z mX5_lackBySets R k n Q 50 ls' st' h) : z_J Z mX5_lackBySets R k n Q 49 ls st h := z_jr bX5_lackBySets_49 bX5_lackBySets_49_ok hr g
theorem dX5_lackBySets_50 : decode cX5_lackBySets 50 = .ok (.if_icmp .ge 35, 3) := by decide +kernel
theorem iX5_lackBySets_50 (kt : y ≤ x → z_J Z mX5_lackBySets R k n Q 85 ls st h) (kf : ¬ y ≤ x → z_J Z mX5_lackBySets R k n Q 53 ls st h) : z_J Z mX5_lackBySets R k n Q 50 ls (.int y :: .int x :: st) h := z_ic_ge dX5_lackBySets_50 (tgt := 85) (by decide) rfl kt kf
def bX5_lackBySets_53 : zB := [(53, .iload_n 2, 54, nI 0), (54, .aload_n 0, 55, nI 0)]
theorem bX5_lackBySets_53_ok : z_ok cX5_lackBySets 53 bX5_lackBySets_53 55 = true := by decide +kernel
theorem iX5_lackBySets_53 (hr : z_run 4 bX5_lackBySets_53 ls st = some (ls', st')) (g : z_J Z mX5_lackBySets R k n Q 55 ls' st' h) : z_J Z mX5_lackBySets R k n Q 53 ls st h := z_jr bX5_lackBySets_53 bX5_lackBySets_53_ok hr g
theorem dX5_lackBySets_55 : decode cX5_lackBySets 55 = .ok (.getfield 26, 3) := by decide +kernel
theorem iX5_lackBySets_55 (hh : h r = some (a, .inr (6, fs))) (hv : fs[3]? = some v) (g : z_J Z mX5_lackBySets R k n Q 58 ls (v :: st) h) : z_J Z mX5_lackBySets R k n Q 55 ls (.ref a :: st) h := z_get dX5_lackBySets_55 rfl fl_X5_26 hh hv g
def bX5_lackBySets_58 : zB := [(58, .iload_n 3, 59, nI 0)]
theorem bX5_lackBySets_58_ok : z_ok cX5_lackBySets 58 bX5_lackBySets_58 59 = true := by decide +kernel
theorem iX5_lackBySets_58 (hr : z_run 4 bX5_lackBySets_58 ls st = some (ls', st')) (g : z_J Z mX5_lackBySets R k n Q 59 ls' st' h) : z_J Z mX5_lackBySets R k n Q 58 ls st h := z_jr bX5_lackBySets_58 bX5_lackBySets_58_ok hr g
theorem dX5_lackBySets_59 : decode cX5_lackBySets 59 = .ok (.invokevirtual 181, 3) := by decide +kernel
theorem iX5_lackBySets_59 (ha : z_args 1 st [] = some (As, .ref b :: rest)) (hc : z_chk rest (.ref b :: As) 4 = true) (hh : h r = some (b, .inr (4, fs))) (hR : z_rm R R' 4 k n) (gc : z_J Z mX3_demandOfSet R' 0 0 Q' 0 (.ref b :: As) [] h) (kr : ∀ (v : Option Value) (h' : zH), Q' (.inl v) h' → z_J Z mX5_lackBySets R (k + R'.cells) (n + R'.slots) Q 62 ls (v.toList ++ rest) h') (kx : ∀ (E : String) (h' : zH), Q' (.inr E) h' → z_JX Z mX5_lackBySets R (k + R'.cells) (n + R'.slots) Q 59 ls E h') : z_J Z mX5_lackBySets R k n Q 59 ls st h := z_callV (M' := mX3_demandOfSet) dX5_lackBySets_59 rfl cs_X5_181 rfl gw685 gw686 ha hh (ci := 4) rfl hR (z_chk1 hc) (z_chk2 hc) (z_chk3 hc) gc kr kx
def bX5_lackBySets_62 : zB := [(62, .aload_n 0, 63, nI 0), (63, .aload_n 0, 64, nI 0)]
theorem bX5_lackBySets_62_ok : z_ok cX5_lackBySets 62 bX5_lackBySets_62 64 = true := by decide +kernel
theorem iX5_lackBySets_62 (hr : z_run 4 bX5_lackBySets_62 ls st = some (ls', st')) (g : z_J Z mX5_lackBySets R k n Q 64 ls' st' h) : z_J Z mX5_lackBySets R k n Q 62 ls st h := z_jr bX5_lackBySets_62 bX5_lackBySets_62_ok hr g
theorem dX5_lackBySets_64 : decode cX5_lackBySets 64 = .ok (.getfield 26, 3) := by decide +kernel
theorem iX5_lackBySets_64 (hh : h r = some (a, .inr (6, fs))) (hv : fs[3]? = some v) (g : z_J Z mX5_lackBySets R k n Q 67 ls (v :: st) h) : z_J Z mX5_lackBySets R k n Q 64 ls (.ref a :: st) h := z_get dX5_lackBySets_64 rfl fl_X5_26 hh hv g
def bX5_lackBySets_67 : zB := [(67, .iload_n 3, 68, nI 0)]
theorem bX5_lackBySets_67_ok : z_ok cX5_lackBySets 67 bX5_lackBySets_67 68 = true := by decide +kernel
theorem iX5_lackBySets_67 (hr : z_run 4 bX5_lackBySets_67 ls st = some (ls', st')) (g : z_J Z mX5_lackBySets R k n Q 68 ls' st' h) : z_J Z mX5_lackBySets R k n Q 67 ls st h := z_jr bX5_lackBySets_67 bX5_lackBySets_67_ok hr g
theorem dX5_lackBySets_68 : decode cX5_lackBySets 68 = .ok (.invokevirtual 184, 3) := by decide +kernel
theorem iX5_lackBySets_68 (ha : z_args 1 st [] = some (As, .ref b :: rest)) (hc : z_chk rest (.ref b :: As) 4 = true) (hh : h r = some (b, .inr (4, fs))) (hR : z_rm R R' 4 k n) (gc : z_J Z mX3_giversOfSet R' 0 0 Q' 0 (.ref b :: As) [] h) (kr : ∀ (v : Option Value) (h' : zH), Q' (.inl v) h' → z_J Z mX5_lackBySets R (k + R'.cells) (n + R'.slots) Q 71 ls (v.toList ++ rest) h') (kx : ∀ (E : String) (h' : zH), Q' (.inr E) h' → z_JX Z mX5_lackBySets R (k + R'.cells) (n + R'.slots) Q 68 ls E h') : z_J Z mX5_lackBySets R k n Q 68 ls st h := z_callV (M' := mX3_giversOfSet) dX5_lackBySets_68 rfl cs_X5_184 rfl gw689 gw690 ha hh (ci := 4) rfl hR (z_chk1 hc) (z_chk2 hc) (z_chk3 hc) gc kr kx
theorem dX5_lackBySets_71 : decode cX5_lackBySets 71 = .ok (.invokevirtual 187, 3) := by decide +kernel
theorem iX5_lackBySets_71 (ha : z_args 1 st [] = some (As, .ref b :: rest)) (hc : z_chk rest (.ref b :: As) 4 = true) (hh : h r = some (b, .inr (6, fs))) (hR : z_rm R R' 4 k n) (gc : z_J Z mX5_unitsOf R' 0 0 Q' 0 (.ref b :: As) [] h) (kr : ∀ (v : Option Value) (h' : zH), Q' (.inl v) h' → z_J Z mX5_lackBySets R (k + R'.cells) (n + R'.slots) Q 74 ls (v.toList ++ rest) h') (kx : ∀ (E : String) (h' : zH), Q' (.inr E) h' → z_JX Z mX5_lackBySets R (k + R'.cells) (n + R'.slots) Q 71 ls E h') : z_J Z mX5_lackBySets R k n Q 71 ls st h := z_callV (M' := mX5_unitsOf) dX5_lackBySets_71 rfl cs_X5_187 rfl gw694 gwp16 ha hh (ci := 6) rfl hR (z_chk1 hc) (z_chk2 hc) (z_chk3 hc) gc kr kx
def bX5_lackBySets_74 : zB := [(74, .isub, 75, nI 0)]
theorem bX5_lackBySets_74_ok : z_ok cX5_lackBySets 74 bX5_lackBySets_74 75 = true := by decide +kernel
theorem iX5_lackBySets_74 (hr : z_run 4 bX5_lackBySets_74 ls st = some (ls', st')) (g : z_J Z mX5_lackBySets R k n Q 75 ls' st' h) : z_J Z mX5_lackBySets R k n Q 74 ls st h := z_jr bX5_lackBySets_74 bX5_lackBySets_74_ok hr g
theorem dX5_lackBySets_75 : decode cX5_lackBySets 75 = .ok (.invokestatic 190, 3) := by decide +kernel
theorem iX5_lackBySets_75 (hc : z_mchk R st k n = true) (g : z_J Z mX5_lackBySets R k n Q 78 ls (.int (if x < y then y else x) :: st) h) : z_J Z mX5_lackBySets R k n Q 75 ls (.int y :: .int x :: st) h := z_mmax dX5_lackBySets_75 rfl gw696 gw330 gw47 gw_mmax hc g
def bX5_lackBySets_78 : zB := [(78, .istore_n 2, 79, nI 0), (79, .iinc 3 1, 82, nI 1), (82, .goto (-42), 40, nI 0)]
theorem bX5_lackBySets_78_ok : z_ok cX5_lackBySets 78 bX5_lackBySets_78 40 = true := by decide +kernel
theorem iX5_lackBySets_78 (hr : z_run 4 bX5_lackBySets_78 ls st = some (ls', st')) (g : z_J Z mX5_lackBySets R k n Q 40 ls' st' h) : z_J Z mX5_lackBySets R k n Q 78 ls st h := z_jr bX5_lackBySets_78 bX5_lackBySets_78_ok hr g
def bX5_lackBySets_85 : zB := [(85, .iload_n 2, 86, nI 0)]
theorem bX5_lackBySets_85_ok : z_ok cX5_lackBySets 85 bX5_lackBySets_85 86 = true := by decide +kernel
theorem iX5_lackBySets_85 (hr : z_run 4 bX5_lackBySets_85 ls st = some (ls', st')) (g : z_J Z mX5_lackBySets R k n Q 86 ls' st' h) : z_J Z mX5_lackBySets R k n Q 85 ls st h := z_jr bX5_lackBySets_85 bX5_lackBySets_85_ok hr g
theorem dX5_lackBySets_86 : decode cX5_lackBySets 86 = .ok (.ireturn, 1) := by decide +kernel
theorem iX5_lackBySets_86 (hk : k ≤ R.cells) (hs : n ≤ R.slots) (hq : Q (.inl (some (.int x))) h) : z_J Z mX5_lackBySets R k n Q 86 ls [.int x] h := z_iret (ty := .int) dX5_lackBySets_86 rfl rfl hk hs hq
/-! X5_spare -/
def bX5_spare_0 : zB := [(0, .iload_n 1, 1, nI 0)]
theorem bX5_spare_0_ok : z_ok cX5_spare 0 bX5_spare_0 1 = true := by decide +kernel
theorem iX5_spare_0 (hr : z_run 4 bX5_spare_0 ls st = some (ls', st')) (g : z_J Z mX5_spare R k n Q 1 ls' st' h) : z_J Z mX5_spare R k n Q 0 ls st h := z_jr bX5_spare_0 bX5_spare_0_ok hr g
theorem dX5_spare_1 : decode cX5_spare 1 = .ok (.invokestatic 109, 3) := by decide +kernel
theorem iX5_spare_1 (ha : z_args 1 st [] = some (As, rest)) (hc : z_chk rest As 1 = true) (hR : z_rm R R' 1 k n) (gc : z_J Z mX5_checkDay R' 0 0 Q' 0 As [] h) (kr : ∀ (v : Option Value) (h' : zH), Q' (.inl v) h' → z_J Z mX5_spare R (k + R'.cells) (n + R'.slots) Q 4 ls (v.toList ++ rest) h') (kx : ∀ (E : String) (h' : zH), Q' (.inr E) h' → z_JX Z mX5_spare R (k + R'.cells) (n + R'.slots) Q 1 ls E h') : z_J Z mX5_spare R k n Q 1 ls st h := z_callS (M' := mX5_checkDay) dX5_spare_1 rfl cs_X5_109 gw518 ha hR (z_chk1 hc) (z_chk2 hc) (z_chk3 hc) gc kr kx
def bX5_spare_4 : zB := [(4, .iload_n 3, 5, nI 0), (5, .iconst 1, 6, nI 1), (6, .bipush 9, 8, nI 9)]
theorem bX5_spare_4_ok : z_ok cX5_spare 4 bX5_spare_4 8 = true := by decide +kernel
theorem iX5_spare_4 (hr : z_run 4 bX5_spare_4 ls st = some (ls', st')) (g : z_J Z mX5_spare R k n Q 8 ls' st' h) : z_J Z mX5_spare R k n Q 4 ls st h := z_jr bX5_spare_4 bX5_spare_4_ok hr g
theorem dX5_spare_8 : decode cX5_spare 8 = .ok (.invokestatic 43, 3) := by decide +kernel
theorem iX5_spare_8 (ha : z_args 3 st [] = some (As, rest)) (hc : z_chk rest As 3 = true) (hR : z_rm R R' 3 k n) (gc : z_J Z mX5_checkArgument R' 0 0 Q' 0 As [] h) (kr : ∀ (v : Option Value) (h' : zH), Q' (.inl v) h' → z_J Z mX5_spare R (k + R'.cells) (n + R'.slots) Q 11 ls (v.toList ++ rest) h') (kx : ∀ (E : String) (h' : zH), Q' (.inr E) h' → z_JX Z mX5_spare R (k + R'.cells) (n + R'.slots) Q 8 ls E h') : z_J Z mX5_spare R k n Q 8 ls st h := z_callS (M' := mX5_checkArgument) dX5_spare_8 rfl cs_X5_43 gw200 ha hR (z_chk1 hc) (z_chk2 hc) (z_chk3 hc) gc kr kx
def bX5_spare_11 : zB := [(11, .iload_n 2, 12, nI 0)]
theorem bX5_spare_11_ok : z_ok cX5_spare 11 bX5_spare_11 12 = true := by decide +kernel
theorem iX5_spare_11 (hr : z_run 4 bX5_spare_11 ls st = some (ls', st')) (g : z_J Z mX5_spare R k n Q 12 ls' st' h) : z_J Z mX5_spare R k n Q 11 ls st h := z_jr bX5_spare_11 bX5_spare_11_ok hr g
theorem dX5_spare_12 : decode cX5_spare 12 = .ok (.invokestatic 101, 3) := by decide +kernel
theorem iX5_spare_12 (ha : z_args 1 st [] = some (As, rest)) (hc : z_chk rest As 1 = true) (hR : z_rm R R' 1 k n) (gc : z_J Z mX5_checkProduct R' 0 0 Q' 0 As [] h) (kr : ∀ (v : Option Value) (h' : zH), Q' (.inl v) h' → z_J Z mX5_spare R (k + R'.cells) (n + R'.slots) Q 15 ls (v.toList ++ rest) h') (kx : ∀ (E : String) (h' : zH), Q' (.inr E) h' → z_JX Z mX5_spare R (k + R'.cells) (n + R'.slots) Q 12 ls E h') : z_J Z mX5_spare R k n Q 12 ls st h := z_callS (M' := mX5_checkProduct) dX5_spare_12 rfl cs_X5_101 gw503 ha hR (z_chk1 hc) (z_chk2 hc) (z_chk3 hc) gc kr kx
def bX5_spare_15 : zB := [(15, .aload_n 0, 16, nI 0), (16, .iload_n 1, 17, nI 0)]
theorem bX5_spare_15_ok : z_ok cX5_spare 15 bX5_spare_15 17 = true := by decide +kernel
theorem iX5_spare_15 (hr : z_run 4 bX5_spare_15 ls st = some (ls', st')) (g : z_J Z mX5_spare R k n Q 17 ls' st' h) : z_J Z mX5_spare R k n Q 15 ls st h := z_jr bX5_spare_15 bX5_spare_15_ok hr g
theorem dX5_spare_17 : decode cX5_spare 17 = .ok (.invokevirtual 142, 3) := by decide +kernel
theorem iX5_spare_17 (ha : z_args 1 st [] = some (As, .ref b :: rest)) (hc : z_chk rest (.ref b :: As) 6 = true) (hh : h r = some (b, .inr (6, fs))) (hR : z_rm R R' 6 k n) (gc : z_J Z mX5_findNeeds R' 0 0 Q' 0 (.ref b :: As) [] h) (kr : ∀ (v : Option Value) (h' : zH), Q' (.inl v) h' → z_J Z mX5_spare R (k + R'.cells) (n + R'.slots) Q 20 ls (v.toList ++ rest) h') (kx : ∀ (E : String) (h' : zH), Q' (.inr E) h' → z_JX Z mX5_spare R (k + R'.cells) (n + R'.slots) Q 17 ls E h') : z_J Z mX5_spare R k n Q 17 ls st h := z_callV (M' := mX5_findNeeds) dX5_spare_17 rfl cs_X5_142 rfl gw571 gwp7 ha hh (ci := 6) rfl hR (z_chk1 hc) (z_chk2 hc) (z_chk3 hc) gc kr kx
def bX5_spare_20 : zB := [(20, .aload_n 0, 21, nI 0), (21, .aload_n 0, 22, nI 0)]
theorem bX5_spare_20_ok : z_ok cX5_spare 20 bX5_spare_20 22 = true := by decide +kernel
theorem iX5_spare_20 (hr : z_run 4 bX5_spare_20 ls st = some (ls', st')) (g : z_J Z mX5_spare R k n Q 22 ls' st' h) : z_J Z mX5_spare R k n Q 20 ls st h := z_jr bX5_spare_20 bX5_spare_20_ok hr g
theorem dX5_spare_22 : decode cX5_spare 22 = .ok (.getfield 26, 3) := by decide +kernel
theorem iX5_spare_22 (hh : h r = some (a, .inr (6, fs))) (hv : fs[3]? = some v) (g : z_J Z mX5_spare R k n Q 25 ls (v :: st) h) : z_J Z mX5_spare R k n Q 22 ls (.ref a :: st) h := z_get dX5_spare_22 rfl fl_X5_26 hh hv g
theorem dX5_spare_25 : decode cX5_spare 25 = .ok (.getfield 145, 3) := by decide +kernel
theorem iX5_spare_25 (hh : h r = some (a, .inr (4, fs))) (hv : fs[5]? = some v) (g : z_J Z mX5_spare R k n Q 28 ls (v :: st) h) : z_J Z mX5_spare R k n Q 25 ls (.ref a :: st) h := z_get dX5_spare_25 rfl fl_X5_145 hh hv g
def bX5_spare_28 : zB := [(28, .iload_n 1, 29, nI 0)]
theorem bX5_spare_28_ok : z_ok cX5_spare 28 bX5_spare_28 29 = true := by decide +kernel
theorem iX5_spare_28 (hr : z_run 4 bX5_spare_28 ls st = some (ls', st')) (g : z_J Z mX5_spare R k n Q 29 ls' st' h) : z_J Z mX5_spare R k n Q 28 ls st h := z_jr bX5_spare_28 bX5_spare_28_ok hr g
theorem dX5_spare_29 : decode cX5_spare 29 = .ok (.invokevirtual 163, 3) := by decide +kernel
theorem iX5_spare_29 (ha : z_args 2 st [] = some (As, .ref b :: rest)) (hc : z_chk rest (.ref b :: As) 5 = true) (hh : h r = some (b, .inr (6, fs))) (hR : z_rm R R' 5 k n) (gc : z_J Z mX5_serveFirst R' 0 0 Q' 0 (.ref b :: As) [] h) (kr : ∀ (v : Option Value) (h' : zH), Q' (.inl v) h' → z_J Z mX5_spare R (k + R'.cells) (n + R'.slots) Q 32 ls (v.toList ++ rest) h') (kx : ∀ (E : String) (h' : zH), Q' (.inr E) h' → z_JX Z mX5_spare R (k + R'.cells) (n + R'.slots) Q 29 ls E h') : z_J Z mX5_spare R k n Q 29 ls st h := z_callV (M' := mX5_serveFirst) dX5_spare_29 rfl cs_X5_163 rfl gw618 gwp9 ha hh (ci := 6) rfl hR (z_chk1 hc) (z_chk2 hc) (z_chk3 hc) gc kr kx
def bX5_spare_32 : zB := [(32, .pop, 33, nI 0), (33, .aload_n 0, 34, nI 0)]
theorem bX5_spare_32_ok : z_ok cX5_spare 32 bX5_spare_32 34 = true := by decide +kernel
theorem iX5_spare_32 (hr : z_run 4 bX5_spare_32 ls st = some (ls', st')) (g : z_J Z mX5_spare R k n Q 34 ls' st' h) : z_J Z mX5_spare R k n Q 32 ls st h := z_jr bX5_spare_32 bX5_spare_32_ok hr g
theorem dX5_spare_34 : decode cX5_spare 34 = .ok (.getfield 33, 3) := by decide +kernel
theorem iX5_spare_34 (hh : h r = some (a, .inr (6, fs))) (hv : fs[4]? = some v) (g : z_J Z mX5_spare R k n Q 37 ls (v :: st) h) : z_J Z mX5_spare R k n Q 34 ls (.ref a :: st) h := z_get dX5_spare_34 rfl fl_X5_33 hh hv g
def bX5_spare_37 : zB := [(37, .aload_n 0, 38, nI 0), (38, .iload_n 2, 39, nI 0), (39, .iload_n 3, 40, nI 0), (40, .iload_n 1, 41, nI 0)]
theorem bX5_spare_37_ok : z_ok cX5_spare 37 bX5_spare_37 41 = true := by decide +kernel
theorem iX5_spare_37 (hr : z_run 4 bX5_spare_37 ls st = some (ls', st')) (g : z_J Z mX5_spare R k n Q 41 ls' st' h) : z_J Z mX5_spare R k n Q 37 ls st h := z_jr bX5_spare_37 bX5_spare_37_ok hr g
theorem dX5_spare_41 : decode cX5_spare 41 = .ok (.invokevirtual 195, 3) := by decide +kernel
theorem iX5_spare_41 (ha : z_args 3 st [] = some (As, .ref b :: rest)) (hc : z_chk rest (.ref b :: As) 6 = true) (hh : h r = some (b, .inr (6, fs))) (hR : z_rm R R' 6 k n) (gc : z_J Z mX5_giversFor R' 0 0 Q' 0 (.ref b :: As) [] h) (kr : ∀ (v : Option Value) (h' : zH), Q' (.inl v) h' → z_J Z mX5_spare R (k + R'.cells) (n + R'.slots) Q 44 ls (v.toList ++ rest) h') (kx : ∀ (E : String) (h' : zH), Q' (.inr E) h' → z_JX Z mX5_spare R (k + R'.cells) (n + R'.slots) Q 41 ls E h') : z_J Z mX5_spare R k n Q 41 ls st h := z_callV (M' := mX5_giversFor) dX5_spare_41 rfl cs_X5_195 rfl gw626 gwp11 ha hh (ci := 6) rfl hR (z_chk1 hc) (z_chk2 hc) (z_chk3 hc) gc kr kx
def bX5_spare_44 : zB := [(44, .sipush 1000, 47, nI 1000)]
theorem bX5_spare_44_ok : z_ok cX5_spare 44 bX5_spare_44 47 = true := by decide +kernel
theorem iX5_spare_44 (hr : z_run 4 bX5_spare_44 ls st = some (ls', st')) (g : z_J Z mX5_spare R k n Q 47 ls' st' h) : z_J Z mX5_spare R k n Q 44 ls st h := z_jr bX5_spare_44 bX5_spare_44_ok hr g
theorem dX5_spare_47 : decode cX5_spare 47 = .ok (.invokevirtual 170, 3) := by decide +kernel
theorem iX5_spare_47 (ha : z_args 2 st [] = some (As, .ref b :: rest)) (hc : z_chk rest (.ref b :: As) 7 = true) (hh : h r = some (b, .inr (1, fs))) (hR : z_rm R R' 7 k n) (gc : z_J Z mX0_serve R' 0 0 Q' 0 (.ref b :: As) [] h) (kr : ∀ (v : Option Value) (h' : zH), Q' (.inl v) h' → z_J Z mX5_spare R (k + R'.cells) (n + R'.slots) Q 50 ls (v.toList ++ rest) h') (kx : ∀ (E : String) (h' : zH), Q' (.inr E) h' → z_JX Z mX5_spare R (k + R'.cells) (n + R'.slots) Q 47 ls E h') : z_J Z mX5_spare R k n Q 47 ls st h := z_callV (M' := mX0_serve) dX5_spare_47 rfl cs_X5_170 rfl gw644 gw645 ha hh (ci := 1) rfl hR (z_chk1 hc) (z_chk2 hc) (z_chk3 hc) gc kr kx
theorem dX5_spare_50 : decode cX5_spare 50 = .ok (.ireturn, 1) := by decide +kernel
theorem iX5_spare_50 (hk : k ≤ R.cells) (hs : n ≤ R.slots) (hq : Q (.inl (some (.int x))) h) : z_J Z mX5_spare R k n Q 50 ls [.int x] h := z_iret (ty := .int) dX5_spare_50 rfl rfl hk hs hq
/-! X5_most -/
def bX5_most_0 : zB := [(0, .iload_n 1, 1, nI 0)]
theorem bX5_most_0_ok : z_ok cX5_most 0 bX5_most_0 1 = true := by decide +kernel
theorem iX5_most_0 (hr : z_run 5 bX5_most_0 ls st = some (ls', st')) (g : z_J Z mX5_most R k n Q 1 ls' st' h) : z_J Z mX5_most R k n Q 0 ls st h := z_jr bX5_most_0 bX5_most_0_ok hr g
theorem dX5_most_1 : decode cX5_most 1 = .ok (.invokestatic 101, 3) := by decide +kernel
theorem iX5_most_1 (ha : z_args 1 st [] = some (As, rest)) (hc : z_chk rest As 1 = true) (hR : z_rm R R' 1 k n) (gc : z_J Z mX5_checkProduct R' 0 0 Q' 0 As [] h) (kr : ∀ (v : Option Value) (h' : zH), Q' (.inl v) h' → z_J Z mX5_most R (k + R'.cells) (n + R'.slots) Q 4 ls (v.toList ++ rest) h') (kx : ∀ (E : String) (h' : zH), Q' (.inr E) h' → z_JX Z mX5_most R (k + R'.cells) (n + R'.slots) Q 1 ls E h') : z_J Z mX5_most R k n Q 1 ls st h := z_callS (M' := mX5_checkProduct) dX5_most_1 rfl cs_X5_101 gw503 ha hR (z_chk1 hc) (z_chk2 hc) (z_chk3 hc) gc kr kx
def bX5_most_4 : zB := [(4, .iload_n 2, 5, nI 0), (5, .iconst 0, 6, nI 0), (6, .bipush 23, 8, nI 23)]
theorem bX5_most_4_ok : z_ok cX5_most 4 bX5_most_4 8 = true := by decide +kernel
theorem iX5_most_4 (hr : z_run 5 bX5_most_4 ls st = some (ls', st')) (g : z_J Z mX5_most R k n Q 8 ls' st' h) : z_J Z mX5_most R k n Q 4 ls st h := z_jr bX5_most_4 bX5_most_4_ok hr g
theorem dX5_most_8 : decode cX5_most 8 = .ok (.invokestatic 43, 3) := by decide +kernel
theorem iX5_most_8 (ha : z_args 3 st [] = some (As, rest)) (hc : z_chk rest As 3 = true) (hR : z_rm R R' 3 k n) (gc : z_J Z mX5_checkArgument R' 0 0 Q' 0 As [] h) (kr : ∀ (v : Option Value) (h' : zH), Q' (.inl v) h' → z_J Z mX5_most R (k + R'.cells) (n + R'.slots) Q 11 ls (v.toList ++ rest) h') (kx : ∀ (E : String) (h' : zH), Q' (.inr E) h' → z_JX Z mX5_most R (k + R'.cells) (n + R'.slots) Q 8 ls E h') : z_J Z mX5_most R k n Q 8 ls st h := z_callS (M' := mX5_checkArgument) dX5_most_8 rfl cs_X5_43 gw200 ha hR (z_chk1 hc) (z_chk2 hc) (z_chk3 hc) gc kr kx
def bX5_most_11 : zB := [(11, .iconst 0, 12, nI 0), (12, .istore_n 3, 13, nI 0), (13, .iconst 0, 14, nI 0), (14, .istore 4, 16, nI 0)]
theorem bX5_most_11_ok : z_ok cX5_most 11 bX5_most_11 16 = true := by decide +kernel
theorem iX5_most_11 (hr : z_run 5 bX5_most_11 ls st = some (ls', st')) (g : z_J Z mX5_most R k n Q 16 ls' st' h) : z_J Z mX5_most R k n Q 11 ls st h := z_jr bX5_most_11 bX5_most_11_ok hr g
def bX5_most_16 : zB := [(16, .iload 4, 18, nI 0), (18, .bipush 30, 20, nI 30)]
theorem bX5_most_16_ok : z_ok cX5_most 16 bX5_most_16 20 = true := by decide +kernel
theorem iX5_most_16 (hr : z_run 5 bX5_most_16 ls st = some (ls', st')) (g : z_J Z mX5_most R k n Q 20 ls' st' h) : z_J Z mX5_most R k n Q 16 ls st h := z_jr bX5_most_16 bX5_most_16_ok hr g
theorem dX5_most_20 : decode cX5_most 20 = .ok (.if_icmp .ge 33, 3) := by decide +kernel
theorem iX5_most_20 (kt : y ≤ x → z_J Z mX5_most R k n Q 53 ls st h) (kf : ¬ y ≤ x → z_J Z mX5_most R k n Q 23 ls st h) : z_J Z mX5_most R k n Q 20 ls (.int y :: .int x :: st) h := z_ic_ge dX5_most_20 (tgt := 53) (by decide) rfl kt kf
def bX5_most_23 : zB := [(23, .aload_n 0, 24, nI 0), (24, .bipush 30, 26, nI 30), (26, .iload_n 2, 27, nI 0), (27, .imul, 28, nI 0), (28, .iload 4, 30, nI 0), (30, .iadd, 31, nI 0)]
theorem bX5_most_23_ok : z_ok cX5_most 23 bX5_most_23 31 = true := by decide +kernel
theorem iX5_most_23 (hr : z_run 5 bX5_most_23 ls st = some (ls', st')) (g : z_J Z mX5_most R k n Q 31 ls' st' h) : z_J Z mX5_most R k n Q 23 ls st h := z_jr bX5_most_23 bX5_most_23_ok hr g
theorem dX5_most_31 : decode cX5_most 31 = .ok (.invokevirtual 142, 3) := by decide +kernel
theorem iX5_most_31 (ha : z_args 1 st [] = some (As, .ref b :: rest)) (hc : z_chk rest (.ref b :: As) 6 = true) (hh : h r = some (b, .inr (6, fs))) (hR : z_rm R R' 6 k n) (gc : z_J Z mX5_findNeeds R' 0 0 Q' 0 (.ref b :: As) [] h) (kr : ∀ (v : Option Value) (h' : zH), Q' (.inl v) h' → z_J Z mX5_most R (k + R'.cells) (n + R'.slots) Q 34 ls (v.toList ++ rest) h') (kx : ∀ (E : String) (h' : zH), Q' (.inr E) h' → z_JX Z mX5_most R (k + R'.cells) (n + R'.slots) Q 31 ls E h') : z_J Z mX5_most R k n Q 31 ls st h := z_callV (M' := mX5_findNeeds) dX5_most_31 rfl cs_X5_142 rfl gw571 gwp7 ha hh (ci := 6) rfl hR (z_chk1 hc) (z_chk2 hc) (z_chk3 hc) gc kr kx
def bX5_most_34 : zB := [(34, .iload_n 3, 35, nI 0), (35, .aload_n 0, 36, nI 0)]
theorem bX5_most_34_ok : z_ok cX5_most 34 bX5_most_34 36 = true := by decide +kernel
theorem iX5_most_34 (hr : z_run 5 bX5_most_34 ls st = some (ls', st')) (g : z_J Z mX5_most R k n Q 36 ls' st' h) : z_J Z mX5_most R k n Q 34 ls st h := z_jr bX5_most_34 bX5_most_34_ok hr g
theorem dX5_most_36 : decode cX5_most 36 = .ok (.getfield 26, 3) := by decide +kernel
theorem iX5_most_36 (hh : h r = some (a, .inr (6, fs))) (hv : fs[3]? = some v) (g : z_J Z mX5_most R k n Q 39 ls (v :: st) h) : z_J Z mX5_most R k n Q 36 ls (.ref a :: st) h := z_get dX5_most_36 rfl fl_X5_26 hh hv g
def bX5_most_39 : zB := [(39, .iload_n 1, 40, nI 0)]
theorem bX5_most_39_ok : z_ok cX5_most 39 bX5_most_39 40 = true := by decide +kernel
theorem iX5_most_39 (hr : z_run 5 bX5_most_39 ls st = some (ls', st')) (g : z_J Z mX5_most R k n Q 40 ls' st' h) : z_J Z mX5_most R k n Q 39 ls st h := z_jr bX5_most_39 bX5_most_39_ok hr g
theorem dX5_most_40 : decode cX5_most 40 = .ok (.invokevirtual 199, 3) := by decide +kernel
theorem iX5_most_40 (ha : z_args 1 st [] = some (As, .ref b :: rest)) (hc : z_chk rest (.ref b :: As) 4 = true) (hh : h r = some (b, .inr (4, fs))) (hR : z_rm R R' 4 k n) (gc : z_J Z mX3_demandOfProduct R' 0 0 Q' 0 (.ref b :: As) [] h) (kr : ∀ (v : Option Value) (h' : zH), Q' (.inl v) h' → z_J Z mX5_most R (k + R'.cells) (n + R'.slots) Q 43 ls (v.toList ++ rest) h') (kx : ∀ (E : String) (h' : zH), Q' (.inr E) h' → z_JX Z mX5_most R (k + R'.cells) (n + R'.slots) Q 40 ls E h') : z_J Z mX5_most R k n Q 40 ls st h := z_callV (M' := mX3_demandOfProduct) dX5_most_40 rfl cs_X5_199 rfl gw712 gw713 ha hh (ci := 4) rfl hR (z_chk1 hc) (z_chk2 hc) (z_chk3 hc) gc kr kx
theorem dX5_most_43 : decode cX5_most 43 = .ok (.invokestatic 190, 3) := by decide +kernel
theorem iX5_most_43 (hc : z_mchk R st k n = true) (g : z_J Z mX5_most R k n Q 46 ls (.int (if x < y then y else x) :: st) h) : z_J Z mX5_most R k n Q 43 ls (.int y :: .int x :: st) h := z_mmax dX5_most_43 rfl gw696 gw330 gw47 gw_mmax hc g
def bX5_most_46 : zB := [(46, .istore_n 3, 47, nI 0), (47, .iinc 4 1, 50, nI 1), (50, .goto (-34), 16, nI 0)]
theorem bX5_most_46_ok : z_ok cX5_most 46 bX5_most_46 16 = true := by decide +kernel
theorem iX5_most_46 (hr : z_run 5 bX5_most_46 ls st = some (ls', st')) (g : z_J Z mX5_most R k n Q 16 ls' st' h) : z_J Z mX5_most R k n Q 46 ls st h := z_jr bX5_most_46 bX5_most_46_ok hr g
def bX5_most_53 : zB := [(53, .iload_n 3, 54, nI 0)]
theorem bX5_most_53_ok : z_ok cX5_most 53 bX5_most_53 54 = true := by decide +kernel
theorem iX5_most_53 (hr : z_run 5 bX5_most_53 ls st = some (ls', st')) (g : z_J Z mX5_most R k n Q 54 ls' st' h) : z_J Z mX5_most R k n Q 53 ls st h := z_jr bX5_most_53 bX5_most_53_ok hr g
theorem dX5_most_54 : decode cX5_most 54 = .ok (.ireturn, 1) := by decide +kernel
theorem iX5_most_54 (hk : k ≤ R.cells) (hs : n ≤ R.slots) (hq : Q (.inl (some (.int x))) h) : z_J Z mX5_most R k n Q 54 ls [.int x] h := z_iret (ty := .int) dX5_most_54 rfl rfl hk hs hq
/-! X5_checkArgument -/
def bX5_checkArgument_0 : zB := [(0, .iload_n 0, 1, nI 0), (1, .iload_n 1, 2, nI 0)]
theorem bX5_checkArgument_0_ok : z_ok cX5_checkArgument 0 bX5_checkArgument_0 2 = true := by decide +kernel
theorem iX5_checkArgument_0 (hr : z_run 3 bX5_checkArgument_0 ls st = some (ls', st')) (g : z_J Z mX5_checkArgument R k n Q 2 ls' st' h) : z_J Z mX5_checkArgument R k n Q 0 ls st h := z_jr bX5_checkArgument_0 bX5_checkArgument_0_ok hr g
theorem dX5_checkArgument_2 : decode cX5_checkArgument 2 = .ok (.if_icmp .lt 8, 3) := by decide +kernel
theorem iX5_checkArgument_2 (kt : x < y → z_J Z mX5_checkArgument R k n Q 10 ls st h) (kf : ¬ x < y → z_J Z mX5_checkArgument R k n Q 5 ls st h) : z_J Z mX5_checkArgument R k n Q 2 ls (.int y :: .int x :: st) h := z_ic_lt dX5_checkArgument_2 (tgt := 10) (by decide) rfl kt kf
def bX5_checkArgument_5 : zB := [(5, .iload_n 0, 6, nI 0), (6, .iload_n 2, 7, nI 0)]
theorem bX5_checkArgument_5_ok : z_ok cX5_checkArgument 5 bX5_checkArgument_5 7 = true := by decide +kernel
theorem iX5_checkArgument_5 (hr : z_run 3 bX5_checkArgument_5 ls st = some (ls', st')) (g : z_J Z mX5_checkArgument R k n Q 7 ls' st' h) : z_J Z mX5_checkArgument R k n Q 5 ls st h := z_jr bX5_checkArgument_5 bX5_checkArgument_5_ok hr g
theorem dX5_checkArgument_7 : decode cX5_checkArgument 7 = .ok (.if_icmp .le 13, 3) := by decide +kernel
theorem iX5_checkArgument_7 (kt : x ≤ y → z_J Z mX5_checkArgument R k n Q 20 ls st h) (kf : ¬ x ≤ y → z_J Z mX5_checkArgument R k n Q 10 ls st h) : z_J Z mX5_checkArgument R k n Q 7 ls (.int y :: .int x :: st) h := z_ic_le dX5_checkArgument_7 (tgt := 20) (by decide) rfl kt kf
theorem dX5_checkArgument_10 : decode cX5_checkArgument 10 = .ok (.new 202, 3) := by decide +kernel
theorem dX5_checkArgument_13 : decode cX5_checkArgument 13 = .ok (.dup, 1) := by decide +kernel
theorem dX5_checkArgument_14 : decode cX5_checkArgument 14 = .ok (.ldc 204, 2) := by decide +kernel
theorem dX5_checkArgument_16 : decode cX5_checkArgument 16 = .ok (.invokespecial 206, 3) := by decide +kernel
theorem dX5_checkArgument_19 : decode cX5_checkArgument 19 = .ok (.athrow, 1) := by decide +kernel
theorem iX5_checkArgument_10 (hRf : 5 < R.frames) (hRl : (st.map fun v => v.category).sum + 82 ≤ R.locals) (hRc : k + 1 ≤ R.cells) (hRs : n + 6 ≤ R.slots) (hq : Q (.inr "java/lang/IllegalArgumentException") h) : z_J Z mX5_checkArgument R k n Q 10 ls st h := z_throw (names := ["java/lang/RuntimeException", "java/lang/Exception"]) (text := "an argument is out of range") rfl dX5_checkArgument_10 dX5_checkArgument_13 dX5_checkArgument_14 dX5_checkArgument_16 dX5_checkArgument_19 (by decide +kernel) (by decide +kernel) gw202 gw43 (by decide +kernel) at_X5_206 at_X5_206_g hRf hRl hRc hRs hq
theorem dX5_checkArgument_20 : decode cX5_checkArgument 20 = .ok (.return_, 1) := by decide +kernel
theorem iX5_checkArgument_20 (hk : k ≤ R.cells) (hs : n ≤ R.slots) (hq : Q (.inl none) h) : z_J Z mX5_checkArgument R k n Q 20 ls [] h := z_vret dX5_checkArgument_20 rfl hk hs hq
/-! X5_checkDay -/
def bX5_checkDay_0 : zB := [(0, .iload_n 0, 1, nI 0), (1, .iconst 0, 2, nI 0), (2, .sipush 720, 5, nI 720)]
theorem bX5_checkDay_0_ok : z_ok cX5_checkDay 0 bX5_checkDay_0 5 = true := by decide +kernel
theorem iX5_checkDay_0 (hr : z_run 1 bX5_checkDay_0 ls st = some (ls', st')) (g : z_J Z mX5_checkDay R k n Q 5 ls' st' h) : z_J Z mX5_checkDay R k n Q 0 ls st h := z_jr bX5_checkDay_0 bX5_checkDay_0_ok hr g
theorem dX5_checkDay_5 : decode cX5_checkDay 5 = .ok (.invokestatic 43, 3) := by decide +kernel
theorem iX5_checkDay_5 (ha : z_args 3 st [] = some (As, rest)) (hc : z_chk rest As 3 = true) (hR : z_rm R R' 3 k n) (gc : z_J Z mX5_checkArgument R' 0 0 Q' 0 As [] h) (kr : ∀ (v : Option Value) (h' : zH), Q' (.inl v) h' → z_J Z mX5_checkDay R (k + R'.cells) (n + R'.slots) Q 8 ls (v.toList ++ rest) h') (kx : ∀ (E : String) (h' : zH), Q' (.inr E) h' → z_JX Z mX5_checkDay R (k + R'.cells) (n + R'.slots) Q 5 ls E h') : z_J Z mX5_checkDay R k n Q 5 ls st h := z_callS (M' := mX5_checkArgument) dX5_checkDay_5 rfl cs_X5_43 gw200 ha hR (z_chk1 hc) (z_chk2 hc) (z_chk3 hc) gc kr kx
theorem dX5_checkDay_8 : decode cX5_checkDay 8 = .ok (.return_, 1) := by decide +kernel
theorem iX5_checkDay_8 (hk : k ≤ R.cells) (hs : n ≤ R.slots) (hq : Q (.inl none) h) : z_J Z mX5_checkDay R k n Q 8 ls [] h := z_vret dX5_checkDay_8 rfl hk hs hq
/-! X5_checkProduct -/
def bX5_checkProduct_0 : zB := [(0, .iload_n 0, 1, nI 0)]
theorem bX5_checkProduct_0_ok : z_ok cX5_checkProduct 0 bX5_checkProduct_0 1 = true := by decide +kernel
theorem iX5_checkProduct_0 (hr : z_run 1 bX5_checkProduct_0 ls st = some (ls', st')) (g : z_J Z mX5_checkProduct R k n Q 1 ls' st' h) : z_J Z mX5_checkProduct R k n Q 0 ls st h := z_jr bX5_checkProduct_0 bX5_checkProduct_0_ok hr g
theorem dX5_checkProduct_1 : decode cX5_checkProduct 1 = .ok (.ifCond .lt 8, 3) := by decide +kernel
theorem iX5_checkProduct_1 (kt : x < 0 → z_J Z mX5_checkProduct R k n Q 9 ls st h) (kf : ¬ x < 0 → z_J Z mX5_checkProduct R k n Q 4 ls st h) : z_J Z mX5_checkProduct R k n Q 1 ls (.int x :: st) h := z_if_lt dX5_checkProduct_1 (tgt := 9) (by decide) rfl kt kf
def bX5_checkProduct_4 : zB := [(4, .iload_n 0, 5, nI 0), (5, .iconst 5, 6, nI 5)]
theorem bX5_checkProduct_4_ok : z_ok cX5_checkProduct 4 bX5_checkProduct_4 6 = true := by decide +kernel
theorem iX5_checkProduct_4 (hr : z_run 1 bX5_checkProduct_4 ls st = some (ls', st')) (g : z_J Z mX5_checkProduct R k n Q 6 ls' st' h) : z_J Z mX5_checkProduct R k n Q 4 ls st h := z_jr bX5_checkProduct_4 bX5_checkProduct_4_ok hr g
theorem dX5_checkProduct_6 : decode cX5_checkProduct 6 = .ok (.if_icmp .lt 13, 3) := by decide +kernel
theorem iX5_checkProduct_6 (kt : x < y → z_J Z mX5_checkProduct R k n Q 19 ls st h) (kf : ¬ x < y → z_J Z mX5_checkProduct R k n Q 9 ls st h) : z_J Z mX5_checkProduct R k n Q 6 ls (.int y :: .int x :: st) h := z_ic_lt dX5_checkProduct_6 (tgt := 19) (by decide) rfl kt kf
theorem dX5_checkProduct_9 : decode cX5_checkProduct 9 = .ok (.new 207, 3) := by decide +kernel
theorem dX5_checkProduct_12 : decode cX5_checkProduct 12 = .ok (.dup, 1) := by decide +kernel
theorem dX5_checkProduct_13 : decode cX5_checkProduct 13 = .ok (.ldc 209, 2) := by decide +kernel
theorem dX5_checkProduct_15 : decode cX5_checkProduct 15 = .ok (.invokespecial 211, 3) := by decide +kernel
theorem dX5_checkProduct_18 : decode cX5_checkProduct 18 = .ok (.athrow, 1) := by decide +kernel
theorem iX5_checkProduct_9 (hRf : 5 < R.frames) (hRl : (st.map fun v => v.category).sum + 82 ≤ R.locals) (hRc : k + 1 ≤ R.cells) (hRs : n + 6 ≤ R.slots) (hq : Q (.inr "java/lang/IndexOutOfBoundsException") h) : z_J Z mX5_checkProduct R k n Q 9 ls st h := z_throw (names := ["java/lang/RuntimeException", "java/lang/Exception"]) (text := "there is no such product") rfl dX5_checkProduct_9 dX5_checkProduct_12 dX5_checkProduct_13 dX5_checkProduct_15 dX5_checkProduct_18 (by decide +kernel) (by decide +kernel) gw380 gw49 (by decide +kernel) at_X5_211 at_X5_211_g hRf hRl hRc hRs hq
theorem dX5_checkProduct_19 : decode cX5_checkProduct 19 = .ok (.return_, 1) := by decide +kernel
theorem iX5_checkProduct_19 (hk : k ≤ R.cells) (hs : n ≤ R.slots) (hq : Q (.inl none) h) : z_J Z mX5_checkProduct R k n Q 19 ls [] h := z_vret dX5_checkProduct_19 rfl hk hs hq
/-! X5_checkNeed -/
def bX5_checkNeed_0 : zB := [(0, .iload_n 1, 1, nI 0)]
theorem bX5_checkNeed_0_ok : z_ok cX5_checkNeed 0 bX5_checkNeed_0 1 = true := by decide +kernel
theorem iX5_checkNeed_0 (hr : z_run 2 bX5_checkNeed_0 ls st = some (ls', st')) (g : z_J Z mX5_checkNeed R k n Q 1 ls' st' h) : z_J Z mX5_checkNeed R k n Q 0 ls st h := z_jr bX5_checkNeed_0 bX5_checkNeed_0_ok hr g
theorem dX5_checkNeed_1 : decode cX5_checkNeed 1 = .ok (.ifCond .lt 14, 3) := by decide +kernel
theorem iX5_checkNeed_1 (kt : x < 0 → z_J Z mX5_checkNeed R k n Q 15 ls st h) (kf : ¬ x < 0 → z_J Z mX5_checkNeed R k n Q 4 ls st h) : z_J Z mX5_checkNeed R k n Q 1 ls (.int x :: st) h := z_if_lt dX5_checkNeed_1 (tgt := 15) (by decide) rfl kt kf
def bX5_checkNeed_4 : zB := [(4, .iload_n 1, 5, nI 0), (5, .aload_n 0, 6, nI 0)]
theorem bX5_checkNeed_4_ok : z_ok cX5_checkNeed 4 bX5_checkNeed_4 6 = true := by decide +kernel
theorem iX5_checkNeed_4 (hr : z_run 2 bX5_checkNeed_4 ls st = some (ls', st')) (g : z_J Z mX5_checkNeed R k n Q 6 ls' st' h) : z_J Z mX5_checkNeed R k n Q 4 ls st h := z_jr bX5_checkNeed_4 bX5_checkNeed_4_ok hr g
theorem dX5_checkNeed_6 : decode cX5_checkNeed 6 = .ok (.getfield 26, 3) := by decide +kernel
theorem iX5_checkNeed_6 (hh : h r = some (a, .inr (6, fs))) (hv : fs[3]? = some v) (g : z_J Z mX5_checkNeed R k n Q 9 ls (v :: st) h) : z_J Z mX5_checkNeed R k n Q 6 ls (.ref a :: st) h := z_get dX5_checkNeed_6 rfl fl_X5_26 hh hv g
theorem dX5_checkNeed_9 : decode cX5_checkNeed 9 = .ok (.getfield 145, 3) := by decide +kernel
theorem iX5_checkNeed_9 (hh : h r = some (a, .inr (4, fs))) (hv : fs[5]? = some v) (g : z_J Z mX5_checkNeed R k n Q 12 ls (v :: st) h) : z_J Z mX5_checkNeed R k n Q 9 ls (.ref a :: st) h := z_get dX5_checkNeed_9 rfl fl_X5_145 hh hv g
theorem dX5_checkNeed_12 : decode cX5_checkNeed 12 = .ok (.if_icmp .lt 13, 3) := by decide +kernel
theorem iX5_checkNeed_12 (kt : x < y → z_J Z mX5_checkNeed R k n Q 25 ls st h) (kf : ¬ x < y → z_J Z mX5_checkNeed R k n Q 15 ls st h) : z_J Z mX5_checkNeed R k n Q 12 ls (.int y :: .int x :: st) h := z_ic_lt dX5_checkNeed_12 (tgt := 25) (by decide) rfl kt kf
theorem dX5_checkNeed_15 : decode cX5_checkNeed 15 = .ok (.new 207, 3) := by decide +kernel
theorem dX5_checkNeed_18 : decode cX5_checkNeed 18 = .ok (.dup, 1) := by decide +kernel
theorem dX5_checkNeed_19 : decode cX5_checkNeed 19 = .ok (.ldc 212, 2) := by decide +kernel
theorem dX5_checkNeed_21 : decode cX5_checkNeed 21 = .ok (.invokespecial 211, 3) := by decide +kernel
theorem dX5_checkNeed_24 : decode cX5_checkNeed 24 = .ok (.athrow, 1) := by decide +kernel
theorem iX5_checkNeed_15 (hRf : 5 < R.frames) (hRl : (st.map fun v => v.category).sum + 82 ≤ R.locals) (hRc : k + 1 ≤ R.cells) (hRs : n + 6 ≤ R.slots) (hq : Q (.inr "java/lang/IndexOutOfBoundsException") h) : z_J Z mX5_checkNeed R k n Q 15 ls st h := z_throw (names := ["java/lang/RuntimeException", "java/lang/Exception"]) (text := "there is no such need") rfl dX5_checkNeed_15 dX5_checkNeed_18 dX5_checkNeed_19 dX5_checkNeed_21 dX5_checkNeed_24 (by decide +kernel) (by decide +kernel) gw380 gw49 (by decide +kernel) at_X5_211 at_X5_211_g hRf hRl hRc hRs hq
theorem dX5_checkNeed_25 : decode cX5_checkNeed 25 = .ok (.return_, 1) := by decide +kernel
theorem iX5_checkNeed_25 (hk : k ≤ R.cells) (hs : n ≤ R.slots) (hq : Q (.inl none) h) : z_J Z mX5_checkNeed R k n Q 25 ls [] h := z_vret dX5_checkNeed_25 rfl hk hs hq
/-! X5_rightOf -/
def bX5_rightOf_0 : zB := [(0, .iload_n 1, 1, nI 0)]
theorem bX5_rightOf_0_ok : z_ok cX5_rightOf 0 bX5_rightOf_0 1 = true := by decide +kernel
theorem iX5_rightOf_0 (hr : z_run 2 bX5_rightOf_0 ls st = some (ls', st')) (g : z_J Z mX5_rightOf R k n Q 1 ls' st' h) : z_J Z mX5_rightOf R k n Q 0 ls st h := z_jr bX5_rightOf_0 bX5_rightOf_0_ok hr g
theorem dX5_rightOf_1 : decode cX5_rightOf 1 = .ok (.ifCond .lt 14, 3) := by decide +kernel
theorem iX5_rightOf_1 (kt : x < 0 → z_J Z mX5_rightOf R k n Q 15 ls st h) (kf : ¬ x < 0 → z_J Z mX5_rightOf R k n Q 4 ls st h) : z_J Z mX5_rightOf R k n Q 1 ls (.int x :: st) h := z_if_lt dX5_rightOf_1 (tgt := 15) (by decide) rfl kt kf
def bX5_rightOf_4 : zB := [(4, .iload_n 1, 5, nI 0), (5, .aload_n 0, 6, nI 0)]
theorem bX5_rightOf_4_ok : z_ok cX5_rightOf 4 bX5_rightOf_4 6 = true := by decide +kernel
theorem iX5_rightOf_4 (hr : z_run 2 bX5_rightOf_4 ls st = some (ls', st')) (g : z_J Z mX5_rightOf R k n Q 6 ls' st' h) : z_J Z mX5_rightOf R k n Q 4 ls st h := z_jr bX5_rightOf_4 bX5_rightOf_4_ok hr g
theorem dX5_rightOf_6 : decode cX5_rightOf 6 = .ok (.getfield 12, 3) := by decide +kernel
theorem iX5_rightOf_6 (hh : h r = some (a, .inr (6, fs))) (hv : fs[0]? = some v) (g : z_J Z mX5_rightOf R k n Q 9 ls (v :: st) h) : z_J Z mX5_rightOf R k n Q 6 ls (.ref a :: st) h := z_get dX5_rightOf_6 rfl fl_X5_12 hh hv g
theorem dX5_rightOf_9 : decode cX5_rightOf 9 = .ok (.invokevirtual 47, 3) := by decide +kernel
theorem iX5_rightOf_9 (ha : z_args 0 st [] = some (As, .ref b :: rest)) (hc : z_chk rest (.ref b :: As) 1 = true) (hh : h r = some (b, .inr (0, fs))) (hR : z_rm R R' 1 k n) (gc : z_J Z mJx4a65c_size_8abf5 R' 0 0 Q' 0 (.ref b :: As) [] h) (kr : ∀ (v : Option Value) (h' : zH), Q' (.inl v) h' → z_J Z mX5_rightOf R (k + R'.cells) (n + R'.slots) Q 12 ls (v.toList ++ rest) h') (kx : ∀ (E : String) (h' : zH), Q' (.inr E) h' → z_JX Z mX5_rightOf R (k + R'.cells) (n + R'.slots) Q 9 ls E h') : z_J Z mX5_rightOf R k n Q 9 ls st h := z_callV (M' := mJx4a65c_size_8abf5) dX5_rightOf_9 rfl cs_X5_47 rfl gw183 gw184 ha hh (ci := 0) rfl hR (z_chk1 hc) (z_chk2 hc) (z_chk3 hc) gc kr kx
theorem dX5_rightOf_12 : decode cX5_rightOf 12 = .ok (.if_icmp .lt 13, 3) := by decide +kernel
theorem iX5_rightOf_12 (kt : x < y → z_J Z mX5_rightOf R k n Q 25 ls st h) (kf : ¬ x < y → z_J Z mX5_rightOf R k n Q 15 ls st h) : z_J Z mX5_rightOf R k n Q 12 ls (.int y :: .int x :: st) h := z_ic_lt dX5_rightOf_12 (tgt := 25) (by decide) rfl kt kf
theorem dX5_rightOf_15 : decode cX5_rightOf 15 = .ok (.new 207, 3) := by decide +kernel
theorem dX5_rightOf_18 : decode cX5_rightOf 18 = .ok (.dup, 1) := by decide +kernel
theorem dX5_rightOf_19 : decode cX5_rightOf 19 = .ok (.ldc 214, 2) := by decide +kernel
theorem dX5_rightOf_21 : decode cX5_rightOf 21 = .ok (.invokespecial 211, 3) := by decide +kernel
theorem dX5_rightOf_24 : decode cX5_rightOf 24 = .ok (.athrow, 1) := by decide +kernel
theorem iX5_rightOf_15 (hRf : 5 < R.frames) (hRl : (st.map fun v => v.category).sum + 82 ≤ R.locals) (hRc : k + 1 ≤ R.cells) (hRs : n + 6 ≤ R.slots) (hq : Q (.inr "java/lang/IndexOutOfBoundsException") h) : z_J Z mX5_rightOf R k n Q 15 ls st h := z_throw (names := ["java/lang/RuntimeException", "java/lang/Exception"]) (text := "there is no such right") rfl dX5_rightOf_15 dX5_rightOf_18 dX5_rightOf_19 dX5_rightOf_21 dX5_rightOf_24 (by decide +kernel) (by decide +kernel) gw380 gw49 (by decide +kernel) at_X5_211 at_X5_211_g hRf hRl hRc hRs hq
def bX5_rightOf_25 : zB := [(25, .aload_n 0, 26, nI 0)]
theorem bX5_rightOf_25_ok : z_ok cX5_rightOf 25 bX5_rightOf_25 26 = true := by decide +kernel
theorem iX5_rightOf_25 (hr : z_run 2 bX5_rightOf_25 ls st = some (ls', st')) (g : z_J Z mX5_rightOf R k n Q 26 ls' st' h) : z_J Z mX5_rightOf R k n Q 25 ls st h := z_jr bX5_rightOf_25 bX5_rightOf_25_ok hr g
theorem dX5_rightOf_26 : decode cX5_rightOf 26 = .ok (.getfield 12, 3) := by decide +kernel
theorem iX5_rightOf_26 (hh : h r = some (a, .inr (6, fs))) (hv : fs[0]? = some v) (g : z_J Z mX5_rightOf R k n Q 29 ls (v :: st) h) : z_J Z mX5_rightOf R k n Q 26 ls (.ref a :: st) h := z_get dX5_rightOf_26 rfl fl_X5_12 hh hv g
def bX5_rightOf_29 : zB := [(29, .iload_n 1, 30, nI 0)]
theorem bX5_rightOf_29_ok : z_ok cX5_rightOf 29 bX5_rightOf_29 30 = true := by decide +kernel
theorem iX5_rightOf_29 (hr : z_run 2 bX5_rightOf_29 ls st = some (ls', st')) (g : z_J Z mX5_rightOf R k n Q 30 ls' st' h) : z_J Z mX5_rightOf R k n Q 29 ls st h := z_jr bX5_rightOf_29 bX5_rightOf_29_ok hr g
theorem dX5_rightOf_30 : decode cX5_rightOf 30 = .ok (.invokevirtual 216, 3) := by decide +kernel
theorem iX5_rightOf_30 (ha : z_args 1 st [] = some (As, .ref b :: rest)) (hc : z_chk rest (.ref b :: As) 2 = true) (hh : h r = some (b, .inr (0, fs))) (hR : z_rm R R' 2 k n) (gc : z_J Z mJx4a65c_get_915e3 R' 0 0 Q' 0 (.ref b :: As) [] h) (kr : ∀ (v : Option Value) (h' : zH), Q' (.inl v) h' → z_J Z mX5_rightOf R (k + R'.cells) (n + R'.slots) Q 33 ls (v.toList ++ rest) h') (kx : ∀ (E : String) (h' : zH), Q' (.inr E) h' → z_JX Z mX5_rightOf R (k + R'.cells) (n + R'.slots) Q 30 ls E h') : z_J Z mX5_rightOf R k n Q 30 ls st h := z_callV (M' := mJx4a65c_get_915e3) dX5_rightOf_30 rfl cs_X5_216 rfl gw397 gw398 ha hh (ci := 0) rfl hR (z_chk1 hc) (z_chk2 hc) (z_chk3 hc) gc kr kx
theorem dX5_rightOf_33 : decode cX5_rightOf 33 = .ok (.checkcast 58, 3) := by decide +kernel
theorem iX5_rightOf_33 (hh : h r = some (a, .inr (5, fs))) (g : z_J Z mX5_rightOf R k n Q 36 ls (.ref a :: st) h) : z_J Z mX5_rightOf R k n Q 33 ls (.ref a :: st) h := z_cast dX5_rightOf_33 rfl hh rfl gw286 g
theorem dX5_rightOf_36 : decode cX5_rightOf 36 = .ok (.areturn, 1) := by decide +kernel
theorem iX5_rightOf_36 (hk : k ≤ R.cells) (hs : n ≤ R.slots) (hq : Q (.inl (some (.ref a))) h) : z_J Z mX5_rightOf R k n Q 36 ls [.ref a] h := z_aret dX5_rightOf_36 (Or.inl rfl) hk hs hq
/-! X5_machineOf -/
def bX5_machineOf_0 : zB := [(0, .iload_n 1, 1, nI 0)]
theorem bX5_machineOf_0_ok : z_ok cX5_machineOf 0 bX5_machineOf_0 1 = true := by decide +kernel
theorem iX5_machineOf_0 (hr : z_run 2 bX5_machineOf_0 ls st = some (ls', st')) (g : z_J Z mX5_machineOf R k n Q 1 ls' st' h) : z_J Z mX5_machineOf R k n Q 0 ls st h := z_jr bX5_machineOf_0 bX5_machineOf_0_ok hr g
theorem dX5_machineOf_1 : decode cX5_machineOf 1 = .ok (.ifCond .lt 14, 3) := by decide +kernel
theorem iX5_machineOf_1 (kt : x < 0 → z_J Z mX5_machineOf R k n Q 15 ls st h) (kf : ¬ x < 0 → z_J Z mX5_machineOf R k n Q 4 ls st h) : z_J Z mX5_machineOf R k n Q 1 ls (.int x :: st) h := z_if_lt dX5_machineOf_1 (tgt := 15) (by decide) rfl kt kf
def bX5_machineOf_4 : zB := [(4, .iload_n 1, 5, nI 0), (5, .aload_n 0, 6, nI 0)]
theorem bX5_machineOf_4_ok : z_ok cX5_machineOf 4 bX5_machineOf_4 6 = true := by decide +kernel
theorem iX5_machineOf_4 (hr : z_run 2 bX5_machineOf_4 ls st = some (ls', st')) (g : z_J Z mX5_machineOf R k n Q 6 ls' st' h) : z_J Z mX5_machineOf R k n Q 4 ls st h := z_jr bX5_machineOf_4 bX5_machineOf_4_ok hr g
theorem dX5_machineOf_6 : decode cX5_machineOf 6 = .ok (.getfield 16, 3) := by decide +kernel
theorem iX5_machineOf_6 (hh : h r = some (a, .inr (6, fs))) (hv : fs[1]? = some v) (g : z_J Z mX5_machineOf R k n Q 9 ls (v :: st) h) : z_J Z mX5_machineOf R k n Q 6 ls (.ref a :: st) h := z_get dX5_machineOf_6 rfl fl_X5_16 hh hv g
theorem dX5_machineOf_9 : decode cX5_machineOf 9 = .ok (.invokevirtual 47, 3) := by decide +kernel
theorem iX5_machineOf_9 (ha : z_args 0 st [] = some (As, .ref b :: rest)) (hc : z_chk rest (.ref b :: As) 1 = true) (hh : h r = some (b, .inr (0, fs))) (hR : z_rm R R' 1 k n) (gc : z_J Z mJx4a65c_size_8abf5 R' 0 0 Q' 0 (.ref b :: As) [] h) (kr : ∀ (v : Option Value) (h' : zH), Q' (.inl v) h' → z_J Z mX5_machineOf R (k + R'.cells) (n + R'.slots) Q 12 ls (v.toList ++ rest) h') (kx : ∀ (E : String) (h' : zH), Q' (.inr E) h' → z_JX Z mX5_machineOf R (k + R'.cells) (n + R'.slots) Q 9 ls E h') : z_J Z mX5_machineOf R k n Q 9 ls st h := z_callV (M' := mJx4a65c_size_8abf5) dX5_machineOf_9 rfl cs_X5_47 rfl gw183 gw184 ha hh (ci := 0) rfl hR (z_chk1 hc) (z_chk2 hc) (z_chk3 hc) gc kr kx
theorem dX5_machineOf_12 : decode cX5_machineOf 12 = .ok (.if_icmp .lt 13, 3) := by decide +kernel
theorem iX5_machineOf_12 (kt : x < y → z_J Z mX5_machineOf R k n Q 25 ls st h) (kf : ¬ x < y → z_J Z mX5_machineOf R k n Q 15 ls st h) : z_J Z mX5_machineOf R k n Q 12 ls (.int y :: .int x :: st) h := z_ic_lt dX5_machineOf_12 (tgt := 25) (by decide) rfl kt kf
theorem dX5_machineOf_15 : decode cX5_machineOf 15 = .ok (.new 207, 3) := by decide +kernel
theorem dX5_machineOf_18 : decode cX5_machineOf 18 = .ok (.dup, 1) := by decide +kernel
theorem dX5_machineOf_19 : decode cX5_machineOf 19 = .ok (.ldc 220, 2) := by decide +kernel
theorem dX5_machineOf_21 : decode cX5_machineOf 21 = .ok (.invokespecial 211, 3) := by decide +kernel
theorem dX5_machineOf_24 : decode cX5_machineOf 24 = .ok (.athrow, 1) := by decide +kernel
theorem iX5_machineOf_15 (hRf : 5 < R.frames) (hRl : (st.map fun v => v.category).sum + 82 ≤ R.locals) (hRc : k + 1 ≤ R.cells) (hRs : n + 6 ≤ R.slots) (hq : Q (.inr "java/lang/IndexOutOfBoundsException") h) : z_J Z mX5_machineOf R k n Q 15 ls st h := z_throw (names := ["java/lang/RuntimeException", "java/lang/Exception"]) (text := "there is no such machine") rfl dX5_machineOf_15 dX5_machineOf_18 dX5_machineOf_19 dX5_machineOf_21 dX5_machineOf_24 (by decide +kernel) (by decide +kernel) gw380 gw49 (by decide +kernel) at_X5_211 at_X5_211_g hRf hRl hRc hRs hq
def bX5_machineOf_25 : zB := [(25, .aload_n 0, 26, nI 0)]
theorem bX5_machineOf_25_ok : z_ok cX5_machineOf 25 bX5_machineOf_25 26 = true := by decide +kernel
theorem iX5_machineOf_25 (hr : z_run 2 bX5_machineOf_25 ls st = some (ls', st')) (g : z_J Z mX5_machineOf R k n Q 26 ls' st' h) : z_J Z mX5_machineOf R k n Q 25 ls st h := z_jr bX5_machineOf_25 bX5_machineOf_25_ok hr g
theorem dX5_machineOf_26 : decode cX5_machineOf 26 = .ok (.getfield 16, 3) := by decide +kernel
theorem iX5_machineOf_26 (hh : h r = some (a, .inr (6, fs))) (hv : fs[1]? = some v) (g : z_J Z mX5_machineOf R k n Q 29 ls (v :: st) h) : z_J Z mX5_machineOf R k n Q 26 ls (.ref a :: st) h := z_get dX5_machineOf_26 rfl fl_X5_16 hh hv g
def bX5_machineOf_29 : zB := [(29, .iload_n 1, 30, nI 0)]
theorem bX5_machineOf_29_ok : z_ok cX5_machineOf 29 bX5_machineOf_29 30 = true := by decide +kernel
theorem iX5_machineOf_29 (hr : z_run 2 bX5_machineOf_29 ls st = some (ls', st')) (g : z_J Z mX5_machineOf R k n Q 30 ls' st' h) : z_J Z mX5_machineOf R k n Q 29 ls st h := z_jr bX5_machineOf_29 bX5_machineOf_29_ok hr g
theorem dX5_machineOf_30 : decode cX5_machineOf 30 = .ok (.invokevirtual 216, 3) := by decide +kernel
theorem iX5_machineOf_30 (ha : z_args 1 st [] = some (As, .ref b :: rest)) (hc : z_chk rest (.ref b :: As) 2 = true) (hh : h r = some (b, .inr (0, fs))) (hR : z_rm R R' 2 k n) (gc : z_J Z mJx4a65c_get_915e3 R' 0 0 Q' 0 (.ref b :: As) [] h) (kr : ∀ (v : Option Value) (h' : zH), Q' (.inl v) h' → z_J Z mX5_machineOf R (k + R'.cells) (n + R'.slots) Q 33 ls (v.toList ++ rest) h') (kx : ∀ (E : String) (h' : zH), Q' (.inr E) h' → z_JX Z mX5_machineOf R (k + R'.cells) (n + R'.slots) Q 30 ls E h') : z_J Z mX5_machineOf R k n Q 30 ls st h := z_callV (M' := mJx4a65c_get_915e3) dX5_machineOf_30 rfl cs_X5_216 rfl gw397 gw398 ha hh (ci := 0) rfl hR (z_chk1 hc) (z_chk2 hc) (z_chk3 hc) gc kr kx
theorem dX5_machineOf_33 : decode cX5_machineOf 33 = .ok (.checkcast 86, 3) := by decide +kernel
theorem iX5_machineOf_33 (hh : h r = some (a, .inr (3, fs))) (g : z_J Z mX5_machineOf R k n Q 36 ls (.ref a :: st) h) : z_J Z mX5_machineOf R k n Q 33 ls (.ref a :: st) h := z_cast dX5_machineOf_33 rfl hh rfl gw430 g
theorem dX5_machineOf_36 : decode cX5_machineOf 36 = .ok (.areturn, 1) := by decide +kernel
theorem iX5_machineOf_36 (hk : k ≤ R.cells) (hs : n ≤ R.slots) (hq : Q (.inl (some (.ref a))) h) : z_J Z mX5_machineOf R k n Q 36 ls [.ref a] h := z_aret dX5_machineOf_36 (Or.inl rfl) hk hs hq
/-! X5_historyOf -/
def bX5_historyOf_0 : zB := [(0, .iload_n 2, 1, nI 0)]
theorem bX5_historyOf_0_ok : z_ok cX5_historyOf 0 bX5_historyOf_0 1 = true := by decide +kernel
theorem iX5_historyOf_0 (hr : z_run 3 bX5_historyOf_0 ls st = some (ls', st')) (g : z_J Z mX5_historyOf R k n Q 1 ls' st' h) : z_J Z mX5_historyOf R k n Q 0 ls st h := z_jr bX5_historyOf_0 bX5_historyOf_0_ok hr g
theorem dX5_historyOf_1 : decode cX5_historyOf 1 = .ok (.invokestatic 101, 3) := by decide +kernel
theorem iX5_historyOf_1 (ha : z_args 1 st [] = some (As, rest)) (hc : z_chk rest As 1 = true) (hR : z_rm R R' 1 k n) (gc : z_J Z mX5_checkProduct R' 0 0 Q' 0 As [] h) (kr : ∀ (v : Option Value) (h' : zH), Q' (.inl v) h' → z_J Z mX5_historyOf R (k + R'.cells) (n + R'.slots) Q 4 ls (v.toList ++ rest) h') (kx : ∀ (E : String) (h' : zH), Q' (.inr E) h' → z_JX Z mX5_historyOf R (k + R'.cells) (n + R'.slots) Q 1 ls E h') : z_J Z mX5_historyOf R k n Q 1 ls st h := z_callS (M' := mX5_checkProduct) dX5_historyOf_1 rfl cs_X5_101 gw503 ha hR (z_chk1 hc) (z_chk2 hc) (z_chk3 hc) gc kr kx
def bX5_historyOf_4 : zB := [(4, .aload_n 0, 5, nI 0), (5, .iload_n 1, 6, nI 0)]
theorem bX5_historyOf_4_ok : z_ok cX5_historyOf 4 bX5_historyOf_4 6 = true := by decide +kernel
theorem iX5_historyOf_4 (hr : z_run 3 bX5_historyOf_4 ls st = some (ls', st')) (g : z_J Z mX5_historyOf R k n Q 6 ls' st' h) : z_J Z mX5_historyOf R k n Q 4 ls st h := z_jr bX5_historyOf_4 bX5_historyOf_4_ok hr g
theorem dX5_historyOf_6 : decode cX5_historyOf 6 = .ok (.invokevirtual 80, 3) := by decide +kernel
theorem iX5_historyOf_6 (ha : z_args 1 st [] = some (As, .ref b :: rest)) (hc : z_chk rest (.ref b :: As) 2 = true) (hh : h r = some (b, .inr (6, fs))) (hR : z_rm R R' 2 k n) (gc : z_J Z mX5_machineOf R' 0 0 Q' 0 (.ref b :: As) [] h) (kr : ∀ (v : Option Value) (h' : zH), Q' (.inl v) h' → z_J Z mX5_historyOf R (k + R'.cells) (n + R'.slots) Q 9 ls (v.toList ++ rest) h') (kx : ∀ (E : String) (h' : zH), Q' (.inr E) h' → z_JX Z mX5_historyOf R (k + R'.cells) (n + R'.slots) Q 6 ls E h') : z_J Z mX5_historyOf R k n Q 6 ls st h := z_callV (M' := mX5_machineOf) dX5_historyOf_6 rfl cs_X5_80 rfl gw427 gwp5 ha hh (ci := 6) rfl hR (z_chk1 hc) (z_chk2 hc) (z_chk3 hc) gc kr kx
theorem dX5_historyOf_9 : decode cX5_historyOf 9 = .ok (.getfield 222, 3) := by decide +kernel
theorem iX5_historyOf_9 (hh : h r = some (a, .inr (3, fs))) (hv : fs[2]? = some v) (g : z_J Z mX5_historyOf R k n Q 12 ls (v :: st) h) : z_J Z mX5_historyOf R k n Q 9 ls (.ref a :: st) h := z_get dX5_historyOf_9 rfl fl_X5_222 hh hv g
def bX5_historyOf_12 : zB := [(12, .iload_n 2, 13, nI 0)]
theorem bX5_historyOf_12_ok : z_ok cX5_historyOf 12 bX5_historyOf_12 13 = true := by decide +kernel
theorem iX5_historyOf_12 (hr : z_run 3 bX5_historyOf_12 ls st = some (ls', st')) (g : z_J Z mX5_historyOf R k n Q 13 ls' st' h) : z_J Z mX5_historyOf R k n Q 12 ls st h := z_jr bX5_historyOf_12 bX5_historyOf_12_ok hr g
theorem dX5_historyOf_13 : decode cX5_historyOf 13 = .ok (.aaload, 1) := by decide +kernel
theorem iX5_historyOf_13 {f : Nat → Option Nat} (hh : h r = some (a, .inl (4, N, .inr (.inr (.inr (.inr f)))))) (hi : i = nI j) (hj : j < N) (hN : N < 2 ^ 31) (g : z_J Z mX5_historyOf R k n Q 14 ls (va_rf (f j) :: st) h) : z_J Z mX5_historyOf R k n Q 13 ls (.int i :: .ref a :: st) h := z_aald4 dX5_historyOf_13 rfl hh hi hj hN g
theorem dX5_historyOf_14 : decode cX5_historyOf 14 = .ok (.areturn, 1) := by decide +kernel
theorem iX5_historyOf_14 (hk : k ≤ R.cells) (hs : n ≤ R.slots) (hq : Q (.inl (some (.ref a))) h) : z_J Z mX5_historyOf R k n Q 14 ls [.ref a] h := z_aret dX5_historyOf_14 (Or.inl rfl) hk hs hq
/-! X5_findNeeds -/
def bX5_findNeeds_0 : zB := [(0, .aload_n 0, 1, nI 0)]
theorem bX5_findNeeds_0_ok : z_ok cX5_findNeeds 0 bX5_findNeeds_0 1 = true := by decide +kernel
theorem iX5_findNeeds_0 (hr : z_run 6 bX5_findNeeds_0 ls st = some (ls', st')) (g : z_J Z mX5_findNeeds R k n Q 1 ls' st' h) : z_J Z mX5_findNeeds R k n Q 0 ls st h := z_jr bX5_findNeeds_0 bX5_findNeeds_0_ok hr g
theorem dX5_findNeeds_1 : decode cX5_findNeeds 1 = .ok (.getfield 26, 3) := by decide +kernel
theorem iX5_findNeeds_1 (hh : h r = some (a, .inr (6, fs))) (hv : fs[3]? = some v) (g : z_J Z mX5_findNeeds R k n Q 4 ls (v :: st) h) : z_J Z mX5_findNeeds R k n Q 1 ls (.ref a :: st) h := z_get dX5_findNeeds_1 rfl fl_X5_26 hh hv g
theorem dX5_findNeeds_4 : decode cX5_findNeeds 4 = .ok (.invokevirtual 226, 3) := by decide +kernel
theorem iX5_findNeeds_4 (ha : z_args 0 st [] = some (As, .ref b :: rest)) (hc : z_chk rest (.ref b :: As) 1 = true) (hh : h r = some (b, .inr (4, fs))) (hR : z_rm R R' 1 k n) (gc : z_J Z mX3_clear R' 0 0 Q' 0 (.ref b :: As) [] h) (kr : ∀ (v : Option Value) (h' : zH), Q' (.inl v) h' → z_J Z mX5_findNeeds R (k + R'.cells) (n + R'.slots) Q 7 ls (v.toList ++ rest) h') (kx : ∀ (E : String) (h' : zH), Q' (.inr E) h' → z_JX Z mX5_findNeeds R (k + R'.cells) (n + R'.slots) Q 4 ls E h') : z_J Z mX5_findNeeds R k n Q 4 ls st h := z_callV (M' := mX3_clear) dX5_findNeeds_4 rfl cs_X5_226 rfl gw574 gw575 ha hh (ci := 4) rfl hR (z_chk1 hc) (z_chk2 hc) (z_chk3 hc) gc kr kx
def bX5_findNeeds_7 : zB := [(7, .iconst 0, 8, nI 0), (8, .istore_n 2, 9, nI 0)]
theorem bX5_findNeeds_7_ok : z_ok cX5_findNeeds 7 bX5_findNeeds_7 9 = true := by decide +kernel
theorem iX5_findNeeds_7 (hr : z_run 6 bX5_findNeeds_7 ls st = some (ls', st')) (g : z_J Z mX5_findNeeds R k n Q 9 ls' st' h) : z_J Z mX5_findNeeds R k n Q 7 ls st h := z_jr bX5_findNeeds_7 bX5_findNeeds_7_ok hr g
def bX5_findNeeds_9 : zB := [(9, .iload_n 2, 10, nI 0), (10, .aload_n 0, 11, nI 0)]
theorem bX5_findNeeds_9_ok : z_ok cX5_findNeeds 9 bX5_findNeeds_9 11 = true := by decide +kernel
theorem iX5_findNeeds_9 (hr : z_run 6 bX5_findNeeds_9 ls st = some (ls', st')) (g : z_J Z mX5_findNeeds R k n Q 11 ls' st' h) : z_J Z mX5_findNeeds R k n Q 9 ls st h := z_jr bX5_findNeeds_9 bX5_findNeeds_9_ok hr g
theorem dX5_findNeeds_11 : decode cX5_findNeeds 11 = .ok (.getfield 16, 3) := by decide +kernel
theorem iX5_findNeeds_11 (hh : h r = some (a, .inr (6, fs))) (hv : fs[1]? = some v) (g : z_J Z mX5_findNeeds R k n Q 14 ls (v :: st) h) : z_J Z mX5_findNeeds R k n Q 11 ls (.ref a :: st) h := z_get dX5_findNeeds_11 rfl fl_X5_16 hh hv g
theorem dX5_findNeeds_14 : decode cX5_findNeeds 14 = .ok (.invokevirtual 47, 3) := by decide +kernel
theorem iX5_findNeeds_14 (ha : z_args 0 st [] = some (As, .ref b :: rest)) (hc : z_chk rest (.ref b :: As) 1 = true) (hh : h r = some (b, .inr (0, fs))) (hR : z_rm R R' 1 k n) (gc : z_J Z mJx4a65c_size_8abf5 R' 0 0 Q' 0 (.ref b :: As) [] h) (kr : ∀ (v : Option Value) (h' : zH), Q' (.inl v) h' → z_J Z mX5_findNeeds R (k + R'.cells) (n + R'.slots) Q 17 ls (v.toList ++ rest) h') (kx : ∀ (E : String) (h' : zH), Q' (.inr E) h' → z_JX Z mX5_findNeeds R (k + R'.cells) (n + R'.slots) Q 14 ls E h') : z_J Z mX5_findNeeds R k n Q 14 ls st h := z_callV (M' := mJx4a65c_size_8abf5) dX5_findNeeds_14 rfl cs_X5_47 rfl gw183 gw184 ha hh (ci := 0) rfl hR (z_chk1 hc) (z_chk2 hc) (z_chk3 hc) gc kr kx
theorem dX5_findNeeds_17 : decode cX5_findNeeds 17 = .ok (.if_icmp .ge 64, 3) := by decide +kernel
theorem iX5_findNeeds_17 (kt : y ≤ x → z_J Z mX5_findNeeds R k n Q 81 ls st h) (kf : ¬ y ≤ x → z_J Z mX5_findNeeds R k n Q 20 ls st h) : z_J Z mX5_findNeeds R k n Q 17 ls (.int y :: .int x :: st) h := z_ic_ge dX5_findNeeds_17 (tgt := 81) (by decide) rfl kt kf
def bX5_findNeeds_20 : zB := [(20, .aload_n 0, 21, nI 0)]
theorem bX5_findNeeds_20_ok : z_ok cX5_findNeeds 20 bX5_findNeeds_20 21 = true := by decide +kernel
theorem iX5_findNeeds_20 (hr : z_run 6 bX5_findNeeds_20 ls st = some (ls', st')) (g : z_J Z mX5_findNeeds R k n Q 21 ls' st' h) : z_J Z mX5_findNeeds R k n Q 20 ls st h := z_jr bX5_findNeeds_20 bX5_findNeeds_20_ok hr g
theorem dX5_findNeeds_21 : decode cX5_findNeeds 21 = .ok (.getfield 16, 3) := by decide +kernel
theorem iX5_findNeeds_21 (hh : h r = some (a, .inr (6, fs))) (hv : fs[1]? = some v) (g : z_J Z mX5_findNeeds R k n Q 24 ls (v :: st) h) : z_J Z mX5_findNeeds R k n Q 21 ls (.ref a :: st) h := z_get dX5_findNeeds_21 rfl fl_X5_16 hh hv g
def bX5_findNeeds_24 : zB := [(24, .iload_n 2, 25, nI 0)]
theorem bX5_findNeeds_24_ok : z_ok cX5_findNeeds 24 bX5_findNeeds_24 25 = true := by decide +kernel
theorem iX5_findNeeds_24 (hr : z_run 6 bX5_findNeeds_24 ls st = some (ls', st')) (g : z_J Z mX5_findNeeds R k n Q 25 ls' st' h) : z_J Z mX5_findNeeds R k n Q 24 ls st h := z_jr bX5_findNeeds_24 bX5_findNeeds_24_ok hr g
theorem dX5_findNeeds_25 : decode cX5_findNeeds 25 = .ok (.invokevirtual 216, 3) := by decide +kernel
theorem iX5_findNeeds_25 (ha : z_args 1 st [] = some (As, .ref b :: rest)) (hc : z_chk rest (.ref b :: As) 2 = true) (hh : h r = some (b, .inr (0, fs))) (hR : z_rm R R' 2 k n) (gc : z_J Z mJx4a65c_get_915e3 R' 0 0 Q' 0 (.ref b :: As) [] h) (kr : ∀ (v : Option Value) (h' : zH), Q' (.inl v) h' → z_J Z mX5_findNeeds R (k + R'.cells) (n + R'.slots) Q 28 ls (v.toList ++ rest) h') (kx : ∀ (E : String) (h' : zH), Q' (.inr E) h' → z_JX Z mX5_findNeeds R (k + R'.cells) (n + R'.slots) Q 25 ls E h') : z_J Z mX5_findNeeds R k n Q 25 ls st h := z_callV (M' := mJx4a65c_get_915e3) dX5_findNeeds_25 rfl cs_X5_216 rfl gw397 gw398 ha hh (ci := 0) rfl hR (z_chk1 hc) (z_chk2 hc) (z_chk3 hc) gc kr kx
theorem dX5_findNeeds_28 : decode cX5_findNeeds 28 = .ok (.checkcast 86, 3) := by decide +kernel
theorem iX5_findNeeds_28 (hh : h r = some (a, .inr (3, fs))) (g : z_J Z mX5_findNeeds R k n Q 31 ls (.ref a :: st) h) : z_J Z mX5_findNeeds R k n Q 28 ls (.ref a :: st) h := z_cast dX5_findNeeds_28 rfl hh rfl gw430 g
def bX5_findNeeds_31 : zB := [(31, .astore_n 3, 32, nI 0), (32, .aload_n 3, 33, nI 0)]
theorem bX5_findNeeds_31_ok : z_ok cX5_findNeeds 31 bX5_findNeeds_31 33 = true := by decide +kernel
theorem iX5_findNeeds_31 (hr : z_run 6 bX5_findNeeds_31 ls st = some (ls', st')) (g : z_J Z mX5_findNeeds R k n Q 33 ls' st' h) : z_J Z mX5_findNeeds R k n Q 31 ls st h := z_jr bX5_findNeeds_31 bX5_findNeeds_31_ok hr g
theorem dX5_findNeeds_33 : decode cX5_findNeeds 33 = .ok (.invokevirtual 98, 3) := by decide +kernel
theorem iX5_findNeeds_33 (ha : z_args 0 st [] = some (As, .ref b :: rest)) (hc : z_chk rest (.ref b :: As) 2 = true) (hh : h r = some (b, .inr (3, fs))) (hR : z_rm R R' 2 k n) (gc : z_J Z mX2_countsBy R' 0 0 Q' 0 (.ref b :: As) [] h) (kr : ∀ (v : Option Value) (h' : zH), Q' (.inl v) h' → z_J Z mX5_findNeeds R (k + R'.cells) (n + R'.slots) Q 36 ls (v.toList ++ rest) h') (kx : ∀ (E : String) (h' : zH), Q' (.inr E) h' → z_JX Z mX5_findNeeds R (k + R'.cells) (n + R'.slots) Q 33 ls E h') : z_J Z mX5_findNeeds R k n Q 33 ls st h := z_callV (M' := mX2_countsBy) dX5_findNeeds_33 rfl cs_X5_98 rfl gw492 gw493 ha hh (ci := 3) rfl hR (z_chk1 hc) (z_chk2 hc) (z_chk3 hc) gc kr kx
def bX5_findNeeds_36 : zB := [(36, .istore 4, 38, nI 0), (38, .iconst 0, 39, nI 0), (39, .istore 5, 41, nI 0)]
theorem bX5_findNeeds_36_ok : z_ok cX5_findNeeds 36 bX5_findNeeds_36 41 = true := by decide +kernel
theorem iX5_findNeeds_36 (hr : z_run 6 bX5_findNeeds_36 ls st = some (ls', st')) (g : z_J Z mX5_findNeeds R k n Q 41 ls' st' h) : z_J Z mX5_findNeeds R k n Q 36 ls st h := z_jr bX5_findNeeds_36 bX5_findNeeds_36_ok hr g
def bX5_findNeeds_41 : zB := [(41, .iload 5, 43, nI 0), (43, .iconst 5, 44, nI 5)]
theorem bX5_findNeeds_41_ok : z_ok cX5_findNeeds 41 bX5_findNeeds_41 44 = true := by decide +kernel
theorem iX5_findNeeds_41 (hr : z_run 6 bX5_findNeeds_41 ls st = some (ls', st')) (g : z_J Z mX5_findNeeds R k n Q 44 ls' st' h) : z_J Z mX5_findNeeds R k n Q 41 ls st h := z_jr bX5_findNeeds_41 bX5_findNeeds_41_ok hr g
theorem dX5_findNeeds_44 : decode cX5_findNeeds 44 = .ok (.if_icmp .ge 31, 3) := by decide +kernel
theorem iX5_findNeeds_44 (kt : y ≤ x → z_J Z mX5_findNeeds R k n Q 75 ls st h) (kf : ¬ y ≤ x → z_J Z mX5_findNeeds R k n Q 47 ls st h) : z_J Z mX5_findNeeds R k n Q 44 ls (.int y :: .int x :: st) h := z_ic_ge dX5_findNeeds_44 (tgt := 75) (by decide) rfl kt kf
def bX5_findNeeds_47 : zB := [(47, .aload_n 0, 48, nI 0)]
theorem bX5_findNeeds_47_ok : z_ok cX5_findNeeds 47 bX5_findNeeds_47 48 = true := by decide +kernel
theorem iX5_findNeeds_47 (hr : z_run 6 bX5_findNeeds_47 ls st = some (ls', st')) (g : z_J Z mX5_findNeeds R k n Q 48 ls' st' h) : z_J Z mX5_findNeeds R k n Q 47 ls st h := z_jr bX5_findNeeds_47 bX5_findNeeds_47_ok hr g
theorem dX5_findNeeds_48 : decode cX5_findNeeds 48 = .ok (.getfield 26, 3) := by decide +kernel
theorem iX5_findNeeds_48 (hh : h r = some (a, .inr (6, fs))) (hv : fs[3]? = some v) (g : z_J Z mX5_findNeeds R k n Q 51 ls (v :: st) h) : z_J Z mX5_findNeeds R k n Q 48 ls (.ref a :: st) h := z_get dX5_findNeeds_48 rfl fl_X5_26 hh hv g
def bX5_findNeeds_51 : zB := [(51, .iload 4, 53, nI 0), (53, .iload 5, 55, nI 0), (55, .aload_n 3, 56, nI 0)]
theorem bX5_findNeeds_51_ok : z_ok cX5_findNeeds 51 bX5_findNeeds_51 56 = true := by decide +kernel
theorem iX5_findNeeds_51 (hr : z_run 6 bX5_findNeeds_51 ls st = some (ls', st')) (g : z_J Z mX5_findNeeds R k n Q 56 ls' st' h) : z_J Z mX5_findNeeds R k n Q 51 ls st h := z_jr bX5_findNeeds_51 bX5_findNeeds_51_ok hr g
theorem dX5_findNeeds_56 : decode cX5_findNeeds 56 = .ok (.getfield 222, 3) := by decide +kernel
theorem iX5_findNeeds_56 (hh : h r = some (a, .inr (3, fs))) (hv : fs[2]? = some v) (g : z_J Z mX5_findNeeds R k n Q 59 ls (v :: st) h) : z_J Z mX5_findNeeds R k n Q 56 ls (.ref a :: st) h := z_get dX5_findNeeds_56 rfl fl_X5_222 hh hv g
def bX5_findNeeds_59 : zB := [(59, .iload 5, 61, nI 0)]
theorem bX5_findNeeds_59_ok : z_ok cX5_findNeeds 59 bX5_findNeeds_59 61 = true := by decide +kernel
theorem iX5_findNeeds_59 (hr : z_run 6 bX5_findNeeds_59 ls st = some (ls', st')) (g : z_J Z mX5_findNeeds R k n Q 61 ls' st' h) : z_J Z mX5_findNeeds R k n Q 59 ls st h := z_jr bX5_findNeeds_59 bX5_findNeeds_59_ok hr g
theorem dX5_findNeeds_61 : decode cX5_findNeeds 61 = .ok (.aaload, 1) := by decide +kernel
theorem iX5_findNeeds_61 {f : Nat → Option Nat} (hh : h r = some (a, .inl (4, N, .inr (.inr (.inr (.inr f)))))) (hi : i = nI j) (hj : j < N) (hN : N < 2 ^ 31) (g : z_J Z mX5_findNeeds R k n Q 62 ls (va_rf (f j) :: st) h) : z_J Z mX5_findNeeds R k n Q 61 ls (.int i :: .ref a :: st) h := z_aald4 dX5_findNeeds_61 rfl hh hi hj hN g
def bX5_findNeeds_62 : zB := [(62, .iload_n 1, 63, nI 0)]
theorem bX5_findNeeds_62_ok : z_ok cX5_findNeeds 62 bX5_findNeeds_62 63 = true := by decide +kernel
theorem iX5_findNeeds_62 (hr : z_run 6 bX5_findNeeds_62 ls st = some (ls', st')) (g : z_J Z mX5_findNeeds R k n Q 63 ls' st' h) : z_J Z mX5_findNeeds R k n Q 62 ls st h := z_jr bX5_findNeeds_62 bX5_findNeeds_62_ok hr g
theorem dX5_findNeeds_63 : decode cX5_findNeeds 63 = .ok (.invokevirtual 139, 3) := by decide +kernel
theorem iX5_findNeeds_63 (ha : z_args 1 st [] = some (As, .ref b :: rest)) (hc : z_chk rest (.ref b :: As) 3 = true) (hh : h r = some (b, .inr (2, fs))) (hR : z_rm R R' 3 k n) (gc : z_J Z mX1_versionOn R' 0 0 Q' 0 (.ref b :: As) [] h) (kr : ∀ (v : Option Value) (h' : zH), Q' (.inl v) h' → z_J Z mX5_findNeeds R (k + R'.cells) (n + R'.slots) Q 66 ls (v.toList ++ rest) h') (kx : ∀ (E : String) (h' : zH), Q' (.inr E) h' → z_JX Z mX5_findNeeds R (k + R'.cells) (n + R'.slots) Q 63 ls E h') : z_J Z mX5_findNeeds R k n Q 63 ls st h := z_callV (M' := mX1_versionOn) dX5_findNeeds_63 rfl cs_X5_139 rfl gw559 gw560 ha hh (ci := 2) rfl hR (z_chk1 hc) (z_chk2 hc) (z_chk3 hc) gc kr kx
theorem dX5_findNeeds_66 : decode cX5_findNeeds 66 = .ok (.invokevirtual 229, 3) := by decide +kernel
theorem iX5_findNeeds_66 (ha : z_args 3 st [] = some (As, .ref b :: rest)) (hc : z_chk rest (.ref b :: As) 5 = true) (hh : h r = some (b, .inr (4, fs))) (hR : z_rm R R' 5 k n) (gc : z_J Z mX3_raise R' 0 0 Q' 0 (.ref b :: As) [] h) (kr : ∀ (v : Option Value) (h' : zH), Q' (.inl v) h' → z_J Z mX5_findNeeds R (k + R'.cells) (n + R'.slots) Q 69 ls (v.toList ++ rest) h') (kx : ∀ (E : String) (h' : zH), Q' (.inr E) h' → z_JX Z mX5_findNeeds R (k + R'.cells) (n + R'.slots) Q 66 ls E h') : z_J Z mX5_findNeeds R k n Q 66 ls st h := z_callV (M' := mX3_raise) dX5_findNeeds_66 rfl cs_X5_229 rfl gw579 gw580 ha hh (ci := 4) rfl hR (z_chk1 hc) (z_chk2 hc) (z_chk3 hc) gc kr kx
def bX5_findNeeds_69 : zB := [(69, .iinc 5 1, 72, nI 1), (72, .goto (-31), 41, nI 0)]
theorem bX5_findNeeds_69_ok : z_ok cX5_findNeeds 69 bX5_findNeeds_69 41 = true := by decide +kernel
theorem iX5_findNeeds_69 (hr : z_run 6 bX5_findNeeds_69 ls st = some (ls', st')) (g : z_J Z mX5_findNeeds R k n Q 41 ls' st' h) : z_J Z mX5_findNeeds R k n Q 69 ls st h := z_jr bX5_findNeeds_69 bX5_findNeeds_69_ok hr g
def bX5_findNeeds_75 : zB := [(75, .iinc 2 1, 78, nI 1), (78, .goto (-69), 9, nI 0)]
theorem bX5_findNeeds_75_ok : z_ok cX5_findNeeds 75 bX5_findNeeds_75 9 = true := by decide +kernel
theorem iX5_findNeeds_75 (hr : z_run 6 bX5_findNeeds_75 ls st = some (ls', st')) (g : z_J Z mX5_findNeeds R k n Q 9 ls' st' h) : z_J Z mX5_findNeeds R k n Q 75 ls st h := z_jr bX5_findNeeds_75 bX5_findNeeds_75_ok hr g
def bX5_findNeeds_81 : zB := [(81, .iconst 0, 82, nI 0), (82, .istore_n 2, 83, nI 0)]
theorem bX5_findNeeds_81_ok : z_ok cX5_findNeeds 81 bX5_findNeeds_81 83 = true := by decide +kernel
theorem iX5_findNeeds_81 (hr : z_run 6 bX5_findNeeds_81 ls st = some (ls', st')) (g : z_J Z mX5_findNeeds R k n Q 83 ls' st' h) : z_J Z mX5_findNeeds R k n Q 81 ls st h := z_jr bX5_findNeeds_81 bX5_findNeeds_81_ok hr g
def bX5_findNeeds_83 : zB := [(83, .iload_n 2, 84, nI 0), (84, .aload_n 0, 85, nI 0)]
theorem bX5_findNeeds_83_ok : z_ok cX5_findNeeds 83 bX5_findNeeds_83 85 = true := by decide +kernel
theorem iX5_findNeeds_83 (hr : z_run 6 bX5_findNeeds_83 ls st = some (ls', st')) (g : z_J Z mX5_findNeeds R k n Q 85 ls' st' h) : z_J Z mX5_findNeeds R k n Q 83 ls st h := z_jr bX5_findNeeds_83 bX5_findNeeds_83_ok hr g
theorem dX5_findNeeds_85 : decode cX5_findNeeds 85 = .ok (.getfield 16, 3) := by decide +kernel
theorem iX5_findNeeds_85 (hh : h r = some (a, .inr (6, fs))) (hv : fs[1]? = some v) (g : z_J Z mX5_findNeeds R k n Q 88 ls (v :: st) h) : z_J Z mX5_findNeeds R k n Q 85 ls (.ref a :: st) h := z_get dX5_findNeeds_85 rfl fl_X5_16 hh hv g
theorem dX5_findNeeds_88 : decode cX5_findNeeds 88 = .ok (.invokevirtual 47, 3) := by decide +kernel
theorem iX5_findNeeds_88 (ha : z_args 0 st [] = some (As, .ref b :: rest)) (hc : z_chk rest (.ref b :: As) 1 = true) (hh : h r = some (b, .inr (0, fs))) (hR : z_rm R R' 1 k n) (gc : z_J Z mJx4a65c_size_8abf5 R' 0 0 Q' 0 (.ref b :: As) [] h) (kr : ∀ (v : Option Value) (h' : zH), Q' (.inl v) h' → z_J Z mX5_findNeeds R (k + R'.cells) (n + R'.slots) Q 91 ls (v.toList ++ rest) h') (kx : ∀ (E : String) (h' : zH), Q' (.inr E) h' → z_JX Z mX5_findNeeds R (k + R'.cells) (n + R'.slots) Q 88 ls E h') : z_J Z mX5_findNeeds R k n Q 88 ls st h := z_callV (M' := mJx4a65c_size_8abf5) dX5_findNeeds_88 rfl cs_X5_47 rfl gw183 gw184 ha hh (ci := 0) rfl hR (z_chk1 hc) (z_chk2 hc) (z_chk3 hc) gc kr kx
theorem dX5_findNeeds_91 : decode cX5_findNeeds 91 = .ok (.if_icmp .ge 60, 3) := by decide +kernel
theorem iX5_findNeeds_91 (kt : y ≤ x → z_J Z mX5_findNeeds R k n Q 151 ls st h) (kf : ¬ y ≤ x → z_J Z mX5_findNeeds R k n Q 94 ls st h) : z_J Z mX5_findNeeds R k n Q 91 ls (.int y :: .int x :: st) h := z_ic_ge dX5_findNeeds_91 (tgt := 151) (by decide) rfl kt kf
def bX5_findNeeds_94 : zB := [(94, .aload_n 0, 95, nI 0)]
theorem bX5_findNeeds_94_ok : z_ok cX5_findNeeds 94 bX5_findNeeds_94 95 = true := by decide +kernel
theorem iX5_findNeeds_94 (hr : z_run 6 bX5_findNeeds_94 ls st = some (ls', st')) (g : z_J Z mX5_findNeeds R k n Q 95 ls' st' h) : z_J Z mX5_findNeeds R k n Q 94 ls st h := z_jr bX5_findNeeds_94 bX5_findNeeds_94_ok hr g
theorem dX5_findNeeds_95 : decode cX5_findNeeds 95 = .ok (.getfield 16, 3) := by decide +kernel
theorem iX5_findNeeds_95 (hh : h r = some (a, .inr (6, fs))) (hv : fs[1]? = some v) (g : z_J Z mX5_findNeeds R k n Q 98 ls (v :: st) h) : z_J Z mX5_findNeeds R k n Q 95 ls (.ref a :: st) h := z_get dX5_findNeeds_95 rfl fl_X5_16 hh hv g
def bX5_findNeeds_98 : zB := [(98, .iload_n 2, 99, nI 0)]
theorem bX5_findNeeds_98_ok : z_ok cX5_findNeeds 98 bX5_findNeeds_98 99 = true := by decide +kernel
theorem iX5_findNeeds_98 (hr : z_run 6 bX5_findNeeds_98 ls st = some (ls', st')) (g : z_J Z mX5_findNeeds R k n Q 99 ls' st' h) : z_J Z mX5_findNeeds R k n Q 98 ls st h := z_jr bX5_findNeeds_98 bX5_findNeeds_98_ok hr g
theorem dX5_findNeeds_99 : decode cX5_findNeeds 99 = .ok (.invokevirtual 216, 3) := by decide +kernel
theorem iX5_findNeeds_99 (ha : z_args 1 st [] = some (As, .ref b :: rest)) (hc : z_chk rest (.ref b :: As) 2 = true) (hh : h r = some (b, .inr (0, fs))) (hR : z_rm R R' 2 k n) (gc : z_J Z mJx4a65c_get_915e3 R' 0 0 Q' 0 (.ref b :: As) [] h) (kr : ∀ (v : Option Value) (h' : zH), Q' (.inl v) h' → z_J Z mX5_findNeeds R (k + R'.cells) (n + R'.slots) Q 102 ls (v.toList ++ rest) h') (kx : ∀ (E : String) (h' : zH), Q' (.inr E) h' → z_JX Z mX5_findNeeds R (k + R'.cells) (n + R'.slots) Q 99 ls E h') : z_J Z mX5_findNeeds R k n Q 99 ls st h := z_callV (M' := mJx4a65c_get_915e3) dX5_findNeeds_99 rfl cs_X5_216 rfl gw397 gw398 ha hh (ci := 0) rfl hR (z_chk1 hc) (z_chk2 hc) (z_chk3 hc) gc kr kx
theorem dX5_findNeeds_102 : decode cX5_findNeeds 102 = .ok (.checkcast 86, 3) := by decide +kernel
theorem iX5_findNeeds_102 (hh : h r = some (a, .inr (3, fs))) (g : z_J Z mX5_findNeeds R k n Q 105 ls (.ref a :: st) h) : z_J Z mX5_findNeeds R k n Q 102 ls (.ref a :: st) h := z_cast dX5_findNeeds_102 rfl hh rfl gw430 g
theorem dX5_findNeeds_105 : decode cX5_findNeeds 105 = .ok (.getfield 91, 3) := by decide +kernel
theorem iX5_findNeeds_105 (hh : h r = some (a, .inr (3, fs))) (hv : fs[3]? = some v) (g : z_J Z mX5_findNeeds R k n Q 108 ls (v :: st) h) : z_J Z mX5_findNeeds R k n Q 105 ls (.ref a :: st) h := z_get dX5_findNeeds_105 rfl fl_X5_91 hh hv g
def bX5_findNeeds_108 : zB := [(108, .istore_n 3, 109, nI 0), (109, .iconst 0, 110, nI 0), (110, .istore 4, 112, nI 0)]
theorem bX5_findNeeds_108_ok : z_ok cX5_findNeeds 108 bX5_findNeeds_108 112 = true := by decide +kernel
theorem iX5_findNeeds_108 (hr : z_run 6 bX5_findNeeds_108 ls st = some (ls', st')) (g : z_J Z mX5_findNeeds R k n Q 112 ls' st' h) : z_J Z mX5_findNeeds R k n Q 108 ls st h := z_jr bX5_findNeeds_108 bX5_findNeeds_108_ok hr g
def bX5_findNeeds_112 : zB := [(112, .iload 4, 114, nI 0), (114, .iconst 5, 115, nI 5)]
theorem bX5_findNeeds_112_ok : z_ok cX5_findNeeds 112 bX5_findNeeds_112 115 = true := by decide +kernel
theorem iX5_findNeeds_112 (hr : z_run 6 bX5_findNeeds_112 ls st = some (ls', st')) (g : z_J Z mX5_findNeeds R k n Q 115 ls' st' h) : z_J Z mX5_findNeeds R k n Q 112 ls st h := z_jr bX5_findNeeds_112 bX5_findNeeds_112_ok hr g
theorem dX5_findNeeds_115 : decode cX5_findNeeds 115 = .ok (.if_icmp .ge 30, 3) := by decide +kernel
theorem iX5_findNeeds_115 (kt : y ≤ x → z_J Z mX5_findNeeds R k n Q 145 ls st h) (kf : ¬ y ≤ x → z_J Z mX5_findNeeds R k n Q 118 ls st h) : z_J Z mX5_findNeeds R k n Q 115 ls (.int y :: .int x :: st) h := z_ic_ge dX5_findNeeds_115 (tgt := 145) (by decide) rfl kt kf
def bX5_findNeeds_118 : zB := [(118, .aload_n 0, 119, nI 0)]
theorem bX5_findNeeds_118_ok : z_ok cX5_findNeeds 118 bX5_findNeeds_118 119 = true := by decide +kernel
theorem iX5_findNeeds_118 (hr : z_run 6 bX5_findNeeds_118 ls st = some (ls', st')) (g : z_J Z mX5_findNeeds R k n Q 119 ls' st' h) : z_J Z mX5_findNeeds R k n Q 118 ls st h := z_jr bX5_findNeeds_118 bX5_findNeeds_118_ok hr g
theorem dX5_findNeeds_119 : decode cX5_findNeeds 119 = .ok (.getfield 26, 3) := by decide +kernel
theorem iX5_findNeeds_119 (hh : h r = some (a, .inr (6, fs))) (hv : fs[3]? = some v) (g : z_J Z mX5_findNeeds R k n Q 122 ls (v :: st) h) : z_J Z mX5_findNeeds R k n Q 119 ls (.ref a :: st) h := z_get dX5_findNeeds_119 rfl fl_X5_26 hh hv g
def bX5_findNeeds_122 : zB := [(122, .iload_n 2, 123, nI 0), (123, .iload 4, 125, nI 0), (125, .iload_n 3, 126, nI 0), (126, .aload_n 0, 127, nI 0)]
theorem bX5_findNeeds_122_ok : z_ok cX5_findNeeds 122 bX5_findNeeds_122 127 = true := by decide +kernel
theorem iX5_findNeeds_122 (hr : z_run 6 bX5_findNeeds_122 ls st = some (ls', st')) (g : z_J Z mX5_findNeeds R k n Q 127 ls' st' h) : z_J Z mX5_findNeeds R k n Q 122 ls st h := z_jr bX5_findNeeds_122 bX5_findNeeds_122_ok hr g
theorem dX5_findNeeds_127 : decode cX5_findNeeds 127 = .ok (.getfield 19, 3) := by decide +kernel
theorem iX5_findNeeds_127 (hh : h r = some (a, .inr (6, fs))) (hv : fs[2]? = some v) (g : z_J Z mX5_findNeeds R k n Q 130 ls (v :: st) h) : z_J Z mX5_findNeeds R k n Q 127 ls (.ref a :: st) h := z_get dX5_findNeeds_127 rfl fl_X5_19 hh hv g
def bX5_findNeeds_130 : zB := [(130, .iload 4, 132, nI 0)]
theorem bX5_findNeeds_130_ok : z_ok cX5_findNeeds 130 bX5_findNeeds_130 132 = true := by decide +kernel
theorem iX5_findNeeds_130 (hr : z_run 6 bX5_findNeeds_130 ls st = some (ls', st')) (g : z_J Z mX5_findNeeds R k n Q 132 ls' st' h) : z_J Z mX5_findNeeds R k n Q 130 ls st h := z_jr bX5_findNeeds_130 bX5_findNeeds_130_ok hr g
theorem dX5_findNeeds_132 : decode cX5_findNeeds 132 = .ok (.iaload, 1) := by decide +kernel
theorem iX5_findNeeds_132 {f : Nat → Int32} (hh : h r = some (a, .inl (0, N, .inl f))) (hi : i = nI j) (hj : j < N) (hN : N < 2 ^ 31) (g : z_J Z mX5_findNeeds R k n Q 133 ls (.int (f j) :: st) h) : z_J Z mX5_findNeeds R k n Q 132 ls (.int i :: .ref a :: st) h := z_iald dX5_findNeeds_132 rfl hh hi hj hN g
theorem dX5_findNeeds_133 : decode cX5_findNeeds 133 = .ok (.invokestatic 232, 3) := by decide +kernel
theorem iX5_findNeeds_133 (ha : z_args 2 st [] = some (As, rest)) (hc : z_chk rest As 2 = true) (hR : z_rm R R' 2 k n) (gc : z_J Z mX5_unitsForCores R' 0 0 Q' 0 As [] h) (kr : ∀ (v : Option Value) (h' : zH), Q' (.inl v) h' → z_J Z mX5_findNeeds R (k + R'.cells) (n + R'.slots) Q 136 ls (v.toList ++ rest) h') (kx : ∀ (E : String) (h' : zH), Q' (.inr E) h' → z_JX Z mX5_findNeeds R (k + R'.cells) (n + R'.slots) Q 133 ls E h') : z_J Z mX5_findNeeds R k n Q 133 ls st h := z_callS (M' := mX5_unitsForCores) dX5_findNeeds_133 rfl cs_X5_232 gw584 ha hR (z_chk1 hc) (z_chk2 hc) (z_chk3 hc) gc kr kx
theorem dX5_findNeeds_136 : decode cX5_findNeeds 136 = .ok (.invokevirtual 235, 3) := by decide +kernel
theorem iX5_findNeeds_136 (ha : z_args 3 st [] = some (As, .ref b :: rest)) (hc : z_chk rest (.ref b :: As) 5 = true) (hh : h r = some (b, .inr (4, fs))) (hR : z_rm R R' 5 k n) (gc : z_J Z mX3_addIfRaised R' 0 0 Q' 0 (.ref b :: As) [] h) (kr : ∀ (v : Option Value) (h' : zH), Q' (.inl v) h' → z_J Z mX5_findNeeds R (k + R'.cells) (n + R'.slots) Q 139 ls (v.toList ++ rest) h') (kx : ∀ (E : String) (h' : zH), Q' (.inr E) h' → z_JX Z mX5_findNeeds R (k + R'.cells) (n + R'.slots) Q 136 ls E h') : z_J Z mX5_findNeeds R k n Q 136 ls st h := z_callV (M' := mX3_addIfRaised) dX5_findNeeds_136 rfl cs_X5_235 rfl gw587 gw588 ha hh (ci := 4) rfl hR (z_chk1 hc) (z_chk2 hc) (z_chk3 hc) gc kr kx
def bX5_findNeeds_139 : zB := [(139, .iinc 4 1, 142, nI 1), (142, .goto (-30), 112, nI 0)]
theorem bX5_findNeeds_139_ok : z_ok cX5_findNeeds 139 bX5_findNeeds_139 112 = true := by decide +kernel
theorem iX5_findNeeds_139 (hr : z_run 6 bX5_findNeeds_139 ls st = some (ls', st')) (g : z_J Z mX5_findNeeds R k n Q 112 ls' st' h) : z_J Z mX5_findNeeds R k n Q 139 ls st h := z_jr bX5_findNeeds_139 bX5_findNeeds_139_ok hr g
def bX5_findNeeds_145 : zB := [(145, .iinc 2 1, 148, nI 1), (148, .goto (-65), 83, nI 0)]
theorem bX5_findNeeds_145_ok : z_ok cX5_findNeeds 145 bX5_findNeeds_145 83 = true := by decide +kernel
theorem iX5_findNeeds_145 (hr : z_run 6 bX5_findNeeds_145 ls st = some (ls', st')) (g : z_J Z mX5_findNeeds R k n Q 83 ls' st' h) : z_J Z mX5_findNeeds R k n Q 145 ls st h := z_jr bX5_findNeeds_145 bX5_findNeeds_145_ok hr g
theorem dX5_findNeeds_151 : decode cX5_findNeeds 151 = .ok (.return_, 1) := by decide +kernel
theorem iX5_findNeeds_151 (hk : k ≤ R.cells) (hs : n ≤ R.slots) (hq : Q (.inl none) h) : z_J Z mX5_findNeeds R k n Q 151 ls [] h := z_vret dX5_findNeeds_151 rfl hk hs hq
/-! X5_unitsForCores -/
def bX5_unitsForCores_0 : zB := [(0, .iload_n 1, 1, nI 0), (1, .iconst 1, 2, nI 1)]
theorem bX5_unitsForCores_0_ok : z_ok cX5_unitsForCores 0 bX5_unitsForCores_0 2 = true := by decide +kernel
theorem iX5_unitsForCores_0 (hr : z_run 2 bX5_unitsForCores_0 ls st = some (ls', st')) (g : z_J Z mX5_unitsForCores R k n Q 2 ls' st' h) : z_J Z mX5_unitsForCores R k n Q 0 ls st h := z_jr bX5_unitsForCores_0 bX5_unitsForCores_0_ok hr g
theorem dX5_unitsForCores_2 : decode cX5_unitsForCores 2 = .ok (.if_icmp .ge 7, 3) := by decide +kernel
theorem iX5_unitsForCores_2 (kt : y ≤ x → z_J Z mX5_unitsForCores R k n Q 9 ls st h) (kf : ¬ y ≤ x → z_J Z mX5_unitsForCores R k n Q 5 ls st h) : z_J Z mX5_unitsForCores R k n Q 2 ls (.int y :: .int x :: st) h := z_ic_ge dX5_unitsForCores_2 (tgt := 9) (by decide) rfl kt kf
def bX5_unitsForCores_5 : zB := [(5, .iconst 0, 6, nI 0), (6, .goto 10, 16, nI 0)]
theorem bX5_unitsForCores_5_ok : z_ok cX5_unitsForCores 5 bX5_unitsForCores_5 16 = true := by decide +kernel
theorem iX5_unitsForCores_5 (hr : z_run 2 bX5_unitsForCores_5 ls st = some (ls', st')) (g : z_J Z mX5_unitsForCores R k n Q 16 ls' st' h) : z_J Z mX5_unitsForCores R k n Q 5 ls st h := z_jr bX5_unitsForCores_5 bX5_unitsForCores_5_ok hr g
def bX5_unitsForCores_9 : zB := [(9, .iload_n 0, 10, nI 0), (10, .iload_n 1, 11, nI 0), (11, .iadd, 12, nI 0), (12, .iconst 1, 13, nI 1), (13, .isub, 14, nI 0), (14, .iload_n 1, 15, nI 0)]
theorem bX5_unitsForCores_9_ok : z_ok cX5_unitsForCores 9 bX5_unitsForCores_9 15 = true := by decide +kernel
theorem iX5_unitsForCores_9 (hr : z_run 2 bX5_unitsForCores_9 ls st = some (ls', st')) (g : z_J Z mX5_unitsForCores R k n Q 15 ls' st' h) : z_J Z mX5_unitsForCores R k n Q 9 ls st h := z_jr bX5_unitsForCores_9 bX5_unitsForCores_9_ok hr g
theorem dX5_unitsForCores_15 : decode cX5_unitsForCores 15 = .ok (.idiv, 1) := by decide +kernel
theorem iX5_unitsForCores_15 (hy : ¬ y = 0) (g : z_J Z mX5_unitsForCores R k n Q 16 ls (.int (x / y) :: st) h) : z_J Z mX5_unitsForCores R k n Q 15 ls (.int y :: .int x :: st) h := z_idiv dX5_unitsForCores_15 rfl hy g
theorem dX5_unitsForCores_16 : decode cX5_unitsForCores 16 = .ok (.ireturn, 1) := by decide +kernel
theorem iX5_unitsForCores_16 (hk : k ≤ R.cells) (hs : n ≤ R.slots) (hq : Q (.inl (some (.int x))) h) : z_J Z mX5_unitsForCores R k n Q 16 ls [.int x] h := z_iret (ty := .int) dX5_unitsForCores_16 rfl rfl hk hs hq
/-! X5_findGivers -/
def bX5_findGivers_0 : zB := [(0, .iconst 0, 1, nI 0), (1, .istore_n 2, 2, nI 0)]
theorem bX5_findGivers_0_ok : z_ok cX5_findGivers 0 bX5_findGivers_0 2 = true := by decide +kernel
theorem iX5_findGivers_0 (hr : z_run 3 bX5_findGivers_0 ls st = some (ls', st')) (g : z_J Z mX5_findGivers R k n Q 2 ls' st' h) : z_J Z mX5_findGivers R k n Q 0 ls st h := z_jr bX5_findGivers_0 bX5_findGivers_0_ok hr g
def bX5_findGivers_2 : zB := [(2, .iload_n 2, 3, nI 0), (3, .aload_n 0, 4, nI 0)]
theorem bX5_findGivers_2_ok : z_ok cX5_findGivers 2 bX5_findGivers_2 4 = true := by decide +kernel
theorem iX5_findGivers_2 (hr : z_run 3 bX5_findGivers_2 ls st = some (ls', st')) (g : z_J Z mX5_findGivers R k n Q 4 ls' st' h) : z_J Z mX5_findGivers R k n Q 2 ls st h := z_jr bX5_findGivers_2 bX5_findGivers_2_ok hr g
theorem dX5_findGivers_4 : decode cX5_findGivers 4 = .ok (.getfield 26, 3) := by decide +kernel
theorem iX5_findGivers_4 (hh : h r = some (a, .inr (6, fs))) (hv : fs[3]? = some v) (g : z_J Z mX5_findGivers R k n Q 7 ls (v :: st) h) : z_J Z mX5_findGivers R k n Q 4 ls (.ref a :: st) h := z_get dX5_findGivers_4 rfl fl_X5_26 hh hv g
theorem dX5_findGivers_7 : decode cX5_findGivers 7 = .ok (.getfield 145, 3) := by decide +kernel
theorem iX5_findGivers_7 (hh : h r = some (a, .inr (4, fs))) (hv : fs[5]? = some v) (g : z_J Z mX5_findGivers R k n Q 10 ls (v :: st) h) : z_J Z mX5_findGivers R k n Q 7 ls (.ref a :: st) h := z_get dX5_findGivers_7 rfl fl_X5_145 hh hv g
theorem dX5_findGivers_10 : decode cX5_findGivers 10 = .ok (.if_icmp .ge 41, 3) := by decide +kernel
theorem iX5_findGivers_10 (kt : y ≤ x → z_J Z mX5_findGivers R k n Q 51 ls st h) (kf : ¬ y ≤ x → z_J Z mX5_findGivers R k n Q 13 ls st h) : z_J Z mX5_findGivers R k n Q 10 ls (.int y :: .int x :: st) h := z_ic_ge dX5_findGivers_10 (tgt := 51) (by decide) rfl kt kf
def bX5_findGivers_13 : zB := [(13, .aload_n 0, 14, nI 0)]
theorem bX5_findGivers_13_ok : z_ok cX5_findGivers 13 bX5_findGivers_13 14 = true := by decide +kernel
theorem iX5_findGivers_13 (hr : z_run 3 bX5_findGivers_13 ls st = some (ls', st')) (g : z_J Z mX5_findGivers R k n Q 14 ls' st' h) : z_J Z mX5_findGivers R k n Q 13 ls st h := z_jr bX5_findGivers_13 bX5_findGivers_13_ok hr g
theorem dX5_findGivers_14 : decode cX5_findGivers 14 = .ok (.getfield 26, 3) := by decide +kernel
theorem iX5_findGivers_14 (hh : h r = some (a, .inr (6, fs))) (hv : fs[3]? = some v) (g : z_J Z mX5_findGivers R k n Q 17 ls (v :: st) h) : z_J Z mX5_findGivers R k n Q 14 ls (.ref a :: st) h := z_get dX5_findGivers_14 rfl fl_X5_26 hh hv g
theorem dX5_findGivers_17 : decode cX5_findGivers 17 = .ok (.getfield 167, 3) := by decide +kernel
theorem iX5_findGivers_17 (hh : h r = some (a, .inr (4, fs))) (hv : fs[4]? = some v) (g : z_J Z mX5_findGivers R k n Q 20 ls (v :: st) h) : z_J Z mX5_findGivers R k n Q 17 ls (.ref a :: st) h := z_get dX5_findGivers_17 rfl fl_X5_167 hh hv g
def bX5_findGivers_20 : zB := [(20, .iload_n 2, 21, nI 0), (21, .aload_n 0, 22, nI 0), (22, .aload_n 0, 23, nI 0)]
theorem bX5_findGivers_20_ok : z_ok cX5_findGivers 20 bX5_findGivers_20 23 = true := by decide +kernel
theorem iX5_findGivers_20 (hr : z_run 3 bX5_findGivers_20 ls st = some (ls', st')) (g : z_J Z mX5_findGivers R k n Q 23 ls' st' h) : z_J Z mX5_findGivers R k n Q 20 ls st h := z_jr bX5_findGivers_20 bX5_findGivers_20_ok hr g
theorem dX5_findGivers_23 : decode cX5_findGivers 23 = .ok (.getfield 26, 3) := by decide +kernel
theorem iX5_findGivers_23 (hh : h r = some (a, .inr (6, fs))) (hv : fs[3]? = some v) (g : z_J Z mX5_findGivers R k n Q 26 ls (v :: st) h) : z_J Z mX5_findGivers R k n Q 23 ls (.ref a :: st) h := z_get dX5_findGivers_23 rfl fl_X5_26 hh hv g
theorem dX5_findGivers_26 : decode cX5_findGivers 26 = .ok (.getfield 154, 3) := by decide +kernel
theorem iX5_findGivers_26 (hh : h r = some (a, .inr (4, fs))) (hv : fs[1]? = some v) (g : z_J Z mX5_findGivers R k n Q 29 ls (v :: st) h) : z_J Z mX5_findGivers R k n Q 26 ls (.ref a :: st) h := z_get dX5_findGivers_26 rfl fl_X5_154 hh hv g
def bX5_findGivers_29 : zB := [(29, .iload_n 2, 30, nI 0)]
theorem bX5_findGivers_29_ok : z_ok cX5_findGivers 29 bX5_findGivers_29 30 = true := by decide +kernel
theorem iX5_findGivers_29 (hr : z_run 3 bX5_findGivers_29 ls st = some (ls', st')) (g : z_J Z mX5_findGivers R k n Q 30 ls' st' h) : z_J Z mX5_findGivers R k n Q 29 ls st h := z_jr bX5_findGivers_29 bX5_findGivers_29_ok hr g
theorem dX5_findGivers_30 : decode cX5_findGivers 30 = .ok (.iaload, 1) := by decide +kernel
theorem iX5_findGivers_30 {f : Nat → Int32} (hh : h r = some (a, .inl (0, N, .inl f))) (hi : i = nI j) (hj : j < N) (hN : N < 2 ^ 31) (g : z_J Z mX5_findGivers R k n Q 31 ls (.int (f j) :: st) h) : z_J Z mX5_findGivers R k n Q 30 ls (.int i :: .ref a :: st) h := z_iald dX5_findGivers_30 rfl hh hi hj hN g
def bX5_findGivers_31 : zB := [(31, .aload_n 0, 32, nI 0)]
theorem bX5_findGivers_31_ok : z_ok cX5_findGivers 31 bX5_findGivers_31 32 = true := by decide +kernel
theorem iX5_findGivers_31 (hr : z_run 3 bX5_findGivers_31 ls st = some (ls', st')) (g : z_J Z mX5_findGivers R k n Q 32 ls' st' h) : z_J Z mX5_findGivers R k n Q 31 ls st h := z_jr bX5_findGivers_31 bX5_findGivers_31_ok hr g
theorem dX5_findGivers_32 : decode cX5_findGivers 32 = .ok (.getfield 26, 3) := by decide +kernel
theorem iX5_findGivers_32 (hh : h r = some (a, .inr (6, fs))) (hv : fs[3]? = some v) (g : z_J Z mX5_findGivers R k n Q 35 ls (v :: st) h) : z_J Z mX5_findGivers R k n Q 32 ls (.ref a :: st) h := z_get dX5_findGivers_32 rfl fl_X5_26 hh hv g
theorem dX5_findGivers_35 : decode cX5_findGivers 35 = .ok (.getfield 157, 3) := by decide +kernel
theorem iX5_findGivers_35 (hh : h r = some (a, .inr (4, fs))) (hv : fs[2]? = some v) (g : z_J Z mX5_findGivers R k n Q 38 ls (v :: st) h) : z_J Z mX5_findGivers R k n Q 35 ls (.ref a :: st) h := z_get dX5_findGivers_35 rfl fl_X5_157 hh hv g
def bX5_findGivers_38 : zB := [(38, .iload_n 2, 39, nI 0)]
theorem bX5_findGivers_38_ok : z_ok cX5_findGivers 38 bX5_findGivers_38 39 = true := by decide +kernel
theorem iX5_findGivers_38 (hr : z_run 3 bX5_findGivers_38 ls st = some (ls', st')) (g : z_J Z mX5_findGivers R k n Q 39 ls' st' h) : z_J Z mX5_findGivers R k n Q 38 ls st h := z_jr bX5_findGivers_38 bX5_findGivers_38_ok hr g
theorem dX5_findGivers_39 : decode cX5_findGivers 39 = .ok (.iaload, 1) := by decide +kernel
theorem iX5_findGivers_39 {f : Nat → Int32} (hh : h r = some (a, .inl (0, N, .inl f))) (hi : i = nI j) (hj : j < N) (hN : N < 2 ^ 31) (g : z_J Z mX5_findGivers R k n Q 40 ls (.int (f j) :: st) h) : z_J Z mX5_findGivers R k n Q 39 ls (.int i :: .ref a :: st) h := z_iald dX5_findGivers_39 rfl hh hi hj hN g
def bX5_findGivers_40 : zB := [(40, .iload_n 1, 41, nI 0)]
theorem bX5_findGivers_40_ok : z_ok cX5_findGivers 40 bX5_findGivers_40 41 = true := by decide +kernel
theorem iX5_findGivers_40 (hr : z_run 3 bX5_findGivers_40 ls st = some (ls', st')) (g : z_J Z mX5_findGivers R k n Q 41 ls' st' h) : z_J Z mX5_findGivers R k n Q 40 ls st h := z_jr bX5_findGivers_40 bX5_findGivers_40_ok hr g
theorem dX5_findGivers_41 : decode cX5_findGivers 41 = .ok (.invokevirtual 195, 3) := by decide +kernel
theorem iX5_findGivers_41 (ha : z_args 3 st [] = some (As, .ref b :: rest)) (hc : z_chk rest (.ref b :: As) 6 = true) (hh : h r = some (b, .inr (6, fs))) (hR : z_rm R R' 6 k n) (gc : z_J Z mX5_giversFor R' 0 0 Q' 0 (.ref b :: As) [] h) (kr : ∀ (v : Option Value) (h' : zH), Q' (.inl v) h' → z_J Z mX5_findGivers R (k + R'.cells) (n + R'.slots) Q 44 ls (v.toList ++ rest) h') (kx : ∀ (E : String) (h' : zH), Q' (.inr E) h' → z_JX Z mX5_findGivers R (k + R'.cells) (n + R'.slots) Q 41 ls E h') : z_J Z mX5_findGivers R k n Q 41 ls st h := z_callV (M' := mX5_giversFor) dX5_findGivers_41 rfl cs_X5_195 rfl gw626 gwp11 ha hh (ci := 6) rfl hR (z_chk1 hc) (z_chk2 hc) (z_chk3 hc) gc kr kx
theorem dX5_findGivers_44 : decode cX5_findGivers 44 = .ok (.iastore, 1) := by decide +kernel
theorem iX5_findGivers_44 {f : Nat → Int32} (hh : h r = some (a, .inl (0, N, .inl f))) (hi : i = nI j) (hj : j < N) (hN : N < 2 ^ 31) (g : z_J Z mX5_findGivers R k n Q 45 ls st (z_u h r (a, .inl (0, N, .inl (upd f j x))))) : z_J Z mX5_findGivers R k n Q 44 ls (.int x :: .int i :: .ref a :: st) h := z_iast dX5_findGivers_44 rfl hh hi hj hN g
def bX5_findGivers_45 : zB := [(45, .iinc 2 1, 48, nI 1), (48, .goto (-46), 2, nI 0)]
theorem bX5_findGivers_45_ok : z_ok cX5_findGivers 45 bX5_findGivers_45 2 = true := by decide +kernel
theorem iX5_findGivers_45 (hr : z_run 3 bX5_findGivers_45 ls st = some (ls', st')) (g : z_J Z mX5_findGivers R k n Q 2 ls' st' h) : z_J Z mX5_findGivers R k n Q 45 ls st h := z_jr bX5_findGivers_45 bX5_findGivers_45_ok hr g
theorem dX5_findGivers_51 : decode cX5_findGivers 51 = .ok (.return_, 1) := by decide +kernel
theorem iX5_findGivers_51 (hk : k ≤ R.cells) (hs : n ≤ R.slots) (hq : Q (.inl none) h) : z_J Z mX5_findGivers R k n Q 51 ls [] h := z_vret dX5_findGivers_51 rfl hk hs hq
/-! X5_giversFor -/
def bX5_giversFor_0 : zB := [(0, .iconst 0, 1, nI 0), (1, .istore 4, 3, nI 0), (3, .iconst 0, 4, nI 0), (4, .istore 5, 6, nI 0)]
theorem bX5_giversFor_0_ok : z_ok cX5_giversFor 0 bX5_giversFor_0 6 = true := by decide +kernel
theorem iX5_giversFor_0 (hr : z_run 6 bX5_giversFor_0 ls st = some (ls', st')) (g : z_J Z mX5_giversFor R k n Q 6 ls' st' h) : z_J Z mX5_giversFor R k n Q 0 ls st h := z_jr bX5_giversFor_0 bX5_giversFor_0_ok hr g
def bX5_giversFor_6 : zB := [(6, .iload 5, 8, nI 0), (8, .aload_n 0, 9, nI 0)]
theorem bX5_giversFor_6_ok : z_ok cX5_giversFor 6 bX5_giversFor_6 9 = true := by decide +kernel
theorem iX5_giversFor_6 (hr : z_run 6 bX5_giversFor_6 ls st = some (ls', st')) (g : z_J Z mX5_giversFor R k n Q 9 ls' st' h) : z_J Z mX5_giversFor R k n Q 6 ls st h := z_jr bX5_giversFor_6 bX5_giversFor_6_ok hr g
theorem dX5_giversFor_9 : decode cX5_giversFor 9 = .ok (.getfield 12, 3) := by decide +kernel
theorem iX5_giversFor_9 (hh : h r = some (a, .inr (6, fs))) (hv : fs[0]? = some v) (g : z_J Z mX5_giversFor R k n Q 12 ls (v :: st) h) : z_J Z mX5_giversFor R k n Q 9 ls (.ref a :: st) h := z_get dX5_giversFor_9 rfl fl_X5_12 hh hv g
theorem dX5_giversFor_12 : decode cX5_giversFor 12 = .ok (.invokevirtual 47, 3) := by decide +kernel
theorem iX5_giversFor_12 (ha : z_args 0 st [] = some (As, .ref b :: rest)) (hc : z_chk rest (.ref b :: As) 1 = true) (hh : h r = some (b, .inr (0, fs))) (hR : z_rm R R' 1 k n) (gc : z_J Z mJx4a65c_size_8abf5 R' 0 0 Q' 0 (.ref b :: As) [] h) (kr : ∀ (v : Option Value) (h' : zH), Q' (.inl v) h' → z_J Z mX5_giversFor R (k + R'.cells) (n + R'.slots) Q 15 ls (v.toList ++ rest) h') (kx : ∀ (E : String) (h' : zH), Q' (.inr E) h' → z_JX Z mX5_giversFor R (k + R'.cells) (n + R'.slots) Q 12 ls E h') : z_J Z mX5_giversFor R k n Q 12 ls st h := z_callV (M' := mJx4a65c_size_8abf5) dX5_giversFor_12 rfl cs_X5_47 rfl gw183 gw184 ha hh (ci := 0) rfl hR (z_chk1 hc) (z_chk2 hc) (z_chk3 hc) gc kr kx
theorem dX5_giversFor_15 : decode cX5_giversFor 15 = .ok (.if_icmp .ge 39, 3) := by decide +kernel
theorem iX5_giversFor_15 (kt : y ≤ x → z_J Z mX5_giversFor R k n Q 54 ls st h) (kf : ¬ y ≤ x → z_J Z mX5_giversFor R k n Q 18 ls st h) : z_J Z mX5_giversFor R k n Q 15 ls (.int y :: .int x :: st) h := z_ic_ge dX5_giversFor_15 (tgt := 54) (by decide) rfl kt kf
def bX5_giversFor_18 : zB := [(18, .aload_n 0, 19, nI 0)]
theorem bX5_giversFor_18_ok : z_ok cX5_giversFor 18 bX5_giversFor_18 19 = true := by decide +kernel
theorem iX5_giversFor_18 (hr : z_run 6 bX5_giversFor_18 ls st = some (ls', st')) (g : z_J Z mX5_giversFor R k n Q 19 ls' st' h) : z_J Z mX5_giversFor R k n Q 18 ls st h := z_jr bX5_giversFor_18 bX5_giversFor_18_ok hr g
theorem dX5_giversFor_19 : decode cX5_giversFor 19 = .ok (.getfield 12, 3) := by decide +kernel
theorem iX5_giversFor_19 (hh : h r = some (a, .inr (6, fs))) (hv : fs[0]? = some v) (g : z_J Z mX5_giversFor R k n Q 22 ls (v :: st) h) : z_J Z mX5_giversFor R k n Q 19 ls (.ref a :: st) h := z_get dX5_giversFor_19 rfl fl_X5_12 hh hv g
def bX5_giversFor_22 : zB := [(22, .iload 5, 24, nI 0)]
theorem bX5_giversFor_22_ok : z_ok cX5_giversFor 22 bX5_giversFor_22 24 = true := by decide +kernel
theorem iX5_giversFor_22 (hr : z_run 6 bX5_giversFor_22 ls st = some (ls', st')) (g : z_J Z mX5_giversFor R k n Q 24 ls' st' h) : z_J Z mX5_giversFor R k n Q 22 ls st h := z_jr bX5_giversFor_22 bX5_giversFor_22_ok hr g
theorem dX5_giversFor_24 : decode cX5_giversFor 24 = .ok (.invokevirtual 216, 3) := by decide +kernel
theorem iX5_giversFor_24 (ha : z_args 1 st [] = some (As, .ref b :: rest)) (hc : z_chk rest (.ref b :: As) 2 = true) (hh : h r = some (b, .inr (0, fs))) (hR : z_rm R R' 2 k n) (gc : z_J Z mJx4a65c_get_915e3 R' 0 0 Q' 0 (.ref b :: As) [] h) (kr : ∀ (v : Option Value) (h' : zH), Q' (.inl v) h' → z_J Z mX5_giversFor R (k + R'.cells) (n + R'.slots) Q 27 ls (v.toList ++ rest) h') (kx : ∀ (E : String) (h' : zH), Q' (.inr E) h' → z_JX Z mX5_giversFor R (k + R'.cells) (n + R'.slots) Q 24 ls E h') : z_J Z mX5_giversFor R k n Q 24 ls st h := z_callV (M' := mJx4a65c_get_915e3) dX5_giversFor_24 rfl cs_X5_216 rfl gw397 gw398 ha hh (ci := 0) rfl hR (z_chk1 hc) (z_chk2 hc) (z_chk3 hc) gc kr kx
theorem dX5_giversFor_27 : decode cX5_giversFor 27 = .ok (.checkcast 58, 3) := by decide +kernel
theorem iX5_giversFor_27 (hh : h r = some (a, .inr (5, fs))) (g : z_J Z mX5_giversFor R k n Q 30 ls (.ref a :: st) h) : z_J Z mX5_giversFor R k n Q 27 ls (.ref a :: st) h := z_cast dX5_giversFor_27 rfl hh rfl gw286 g
def bX5_giversFor_30 : zB := [(30, .iload_n 1, 31, nI 0), (31, .iload_n 2, 32, nI 0), (32, .iload_n 3, 33, nI 0)]
theorem bX5_giversFor_30_ok : z_ok cX5_giversFor 30 bX5_giversFor_30 33 = true := by decide +kernel
theorem iX5_giversFor_30 (hr : z_run 6 bX5_giversFor_30 ls st = some (ls', st')) (g : z_J Z mX5_giversFor R k n Q 33 ls' st' h) : z_J Z mX5_giversFor R k n Q 30 ls st h := z_jr bX5_giversFor_30 bX5_giversFor_30_ok hr g
theorem dX5_giversFor_33 : decode cX5_giversFor 33 = .ok (.invokevirtual 238, 3) := by decide +kernel
theorem iX5_giversFor_33 (ha : z_args 3 st [] = some (As, .ref b :: rest)) (hc : z_chk rest (.ref b :: As) 4 = true) (hh : h r = some (b, .inr (5, fs))) (hR : z_rm R R' 4 k n) (gc : z_J Z mX4_canGive R' 0 0 Q' 0 (.ref b :: As) [] h) (kr : ∀ (v : Option Value) (h' : zH), Q' (.inl v) h' → z_J Z mX5_giversFor R (k + R'.cells) (n + R'.slots) Q 36 ls (v.toList ++ rest) h') (kx : ∀ (E : String) (h' : zH), Q' (.inr E) h' → z_JX Z mX5_giversFor R (k + R'.cells) (n + R'.slots) Q 33 ls E h') : z_J Z mX5_giversFor R k n Q 33 ls st h := z_callV (M' := mX4_canGive) dX5_giversFor_33 rfl cs_X5_238 rfl gw629 gw630 ha hh (ci := 5) rfl hR (z_chk1 hc) (z_chk2 hc) (z_chk3 hc) gc kr kx
theorem dX5_giversFor_36 : decode cX5_giversFor 36 = .ok (.ifCond .eq 12, 3) := by decide +kernel
theorem iX5_giversFor_36 (kt : x = 0 → z_J Z mX5_giversFor R k n Q 48 ls st h) (kf : ¬ x = 0 → z_J Z mX5_giversFor R k n Q 39 ls st h) : z_J Z mX5_giversFor R k n Q 36 ls (.int x :: st) h := z_if_eq dX5_giversFor_36 (tgt := 48) (by decide) rfl kt kf
def bX5_giversFor_39 : zB := [(39, .iload 4, 41, nI 0), (41, .iconst 1, 42, nI 1), (42, .iload 5, 44, nI 0), (44, .ishl, 45, nI 0), (45, .ior, 46, nI 0), (46, .istore 4, 48, nI 0)]
theorem bX5_giversFor_39_ok : z_ok cX5_giversFor 39 bX5_giversFor_39 48 = true := by decide +kernel
theorem iX5_giversFor_39 (hr : z_run 6 bX5_giversFor_39 ls st = some (ls', st')) (g : z_J Z mX5_giversFor R k n Q 48 ls' st' h) : z_J Z mX5_giversFor R k n Q 39 ls st h := z_jr bX5_giversFor_39 bX5_giversFor_39_ok hr g
def bX5_giversFor_48 : zB := [(48, .iinc 5 1, 51, nI 1), (51, .goto (-45), 6, nI 0)]
theorem bX5_giversFor_48_ok : z_ok cX5_giversFor 48 bX5_giversFor_48 6 = true := by decide +kernel
theorem iX5_giversFor_48 (hr : z_run 6 bX5_giversFor_48 ls st = some (ls', st')) (g : z_J Z mX5_giversFor R k n Q 6 ls' st' h) : z_J Z mX5_giversFor R k n Q 48 ls st h := z_jr bX5_giversFor_48 bX5_giversFor_48_ok hr g
def bX5_giversFor_54 : zB := [(54, .iload 4, 56, nI 0)]
theorem bX5_giversFor_54_ok : z_ok cX5_giversFor 54 bX5_giversFor_54 56 = true := by decide +kernel
theorem iX5_giversFor_54 (hr : z_run 6 bX5_giversFor_54 ls st = some (ls', st')) (g : z_J Z mX5_giversFor R k n Q 56 ls' st' h) : z_J Z mX5_giversFor R k n Q 54 ls st h := z_jr bX5_giversFor_54 bX5_giversFor_54_ok hr g
theorem dX5_giversFor_56 : decode cX5_giversFor 56 = .ok (.ireturn, 1) := by decide +kernel
theorem iX5_giversFor_56 (hk : k ≤ R.cells) (hs : n ≤ R.slots) (hq : Q (.inl (some (.int x))) h) : z_J Z mX5_giversFor R k n Q 56 ls [.int x] h := z_iret (ty := .int) dX5_giversFor_56 rfl rfl hk hs hq
/-! X5_unitsOf -/
def bX5_unitsOf_0 : zB := [(0, .iconst 0, 1, nI 0), (1, .istore_n 2, 2, nI 0), (2, .iconst 0, 3, nI 0), (3, .istore_n 3, 4, nI 0)]
theorem bX5_unitsOf_0_ok : z_ok cX5_unitsOf 0 bX5_unitsOf_0 4 = true := by decide +kernel
theorem iX5_unitsOf_0 (hr : z_run 4 bX5_unitsOf_0 ls st = some (ls', st')) (g : z_J Z mX5_unitsOf R k n Q 4 ls' st' h) : z_J Z mX5_unitsOf R k n Q 0 ls st h := z_jr bX5_unitsOf_0 bX5_unitsOf_0_ok hr g
def bX5_unitsOf_4 : zB := [(4, .iload_n 3, 5, nI 0), (5, .aload_n 0, 6, nI 0)]
theorem bX5_unitsOf_4_ok : z_ok cX5_unitsOf 4 bX5_unitsOf_4 6 = true := by decide +kernel
theorem iX5_unitsOf_4 (hr : z_run 4 bX5_unitsOf_4 ls st = some (ls', st')) (g : z_J Z mX5_unitsOf R k n Q 6 ls' st' h) : z_J Z mX5_unitsOf R k n Q 4 ls st h := z_jr bX5_unitsOf_4 bX5_unitsOf_4_ok hr g
theorem dX5_unitsOf_6 : decode cX5_unitsOf 6 = .ok (.getfield 12, 3) := by decide +kernel
theorem iX5_unitsOf_6 (hh : h r = some (a, .inr (6, fs))) (hv : fs[0]? = some v) (g : z_J Z mX5_unitsOf R k n Q 9 ls (v :: st) h) : z_J Z mX5_unitsOf R k n Q 6 ls (.ref a :: st) h := z_get dX5_unitsOf_6 rfl fl_X5_12 hh hv g
theorem dX5_unitsOf_9 : decode cX5_unitsOf 9 = .ok (.invokevirtual 47, 3) := by decide +kernel
theorem iX5_unitsOf_9 (ha : z_args 0 st [] = some (As, .ref b :: rest)) (hc : z_chk rest (.ref b :: As) 1 = true) (hh : h r = some (b, .inr (0, fs))) (hR : z_rm R R' 1 k n) (gc : z_J Z mJx4a65c_size_8abf5 R' 0 0 Q' 0 (.ref b :: As) [] h) (kr : ∀ (v : Option Value) (h' : zH), Q' (.inl v) h' → z_J Z mX5_unitsOf R (k + R'.cells) (n + R'.slots) Q 12 ls (v.toList ++ rest) h') (kx : ∀ (E : String) (h' : zH), Q' (.inr E) h' → z_JX Z mX5_unitsOf R (k + R'.cells) (n + R'.slots) Q 9 ls E h') : z_J Z mX5_unitsOf R k n Q 9 ls st h := z_callV (M' := mJx4a65c_size_8abf5) dX5_unitsOf_9 rfl cs_X5_47 rfl gw183 gw184 ha hh (ci := 0) rfl hR (z_chk1 hc) (z_chk2 hc) (z_chk3 hc) gc kr kx
theorem dX5_unitsOf_12 : decode cX5_unitsOf 12 = .ok (.if_icmp .ge 34, 3) := by decide +kernel
theorem iX5_unitsOf_12 (kt : y ≤ x → z_J Z mX5_unitsOf R k n Q 46 ls st h) (kf : ¬ y ≤ x → z_J Z mX5_unitsOf R k n Q 15 ls st h) : z_J Z mX5_unitsOf R k n Q 12 ls (.int y :: .int x :: st) h := z_ic_ge dX5_unitsOf_12 (tgt := 46) (by decide) rfl kt kf
def bX5_unitsOf_15 : zB := [(15, .iload_n 1, 16, nI 0), (16, .iload_n 3, 17, nI 0), (17, .ishr, 18, nI 0), (18, .iconst 1, 19, nI 1), (19, .iand, 20, nI 0)]
theorem bX5_unitsOf_15_ok : z_ok cX5_unitsOf 15 bX5_unitsOf_15 20 = true := by decide +kernel
theorem iX5_unitsOf_15 (hr : z_run 4 bX5_unitsOf_15 ls st = some (ls', st')) (g : z_J Z mX5_unitsOf R k n Q 20 ls' st' h) : z_J Z mX5_unitsOf R k n Q 15 ls st h := z_jr bX5_unitsOf_15 bX5_unitsOf_15_ok hr g
theorem dX5_unitsOf_20 : decode cX5_unitsOf 20 = .ok (.ifCond .eq 20, 3) := by decide +kernel
theorem iX5_unitsOf_20 (kt : x = 0 → z_J Z mX5_unitsOf R k n Q 40 ls st h) (kf : ¬ x = 0 → z_J Z mX5_unitsOf R k n Q 23 ls st h) : z_J Z mX5_unitsOf R k n Q 20 ls (.int x :: st) h := z_if_eq dX5_unitsOf_20 (tgt := 40) (by decide) rfl kt kf
def bX5_unitsOf_23 : zB := [(23, .iload_n 2, 24, nI 0), (24, .aload_n 0, 25, nI 0)]
theorem bX5_unitsOf_23_ok : z_ok cX5_unitsOf 23 bX5_unitsOf_23 25 = true := by decide +kernel
theorem iX5_unitsOf_23 (hr : z_run 4 bX5_unitsOf_23 ls st = some (ls', st')) (g : z_J Z mX5_unitsOf R k n Q 25 ls' st' h) : z_J Z mX5_unitsOf R k n Q 23 ls st h := z_jr bX5_unitsOf_23 bX5_unitsOf_23_ok hr g
theorem dX5_unitsOf_25 : decode cX5_unitsOf 25 = .ok (.getfield 12, 3) := by decide +kernel
theorem iX5_unitsOf_25 (hh : h r = some (a, .inr (6, fs))) (hv : fs[0]? = some v) (g : z_J Z mX5_unitsOf R k n Q 28 ls (v :: st) h) : z_J Z mX5_unitsOf R k n Q 25 ls (.ref a :: st) h := z_get dX5_unitsOf_25 rfl fl_X5_12 hh hv g
def bX5_unitsOf_28 : zB := [(28, .iload_n 3, 29, nI 0)]
theorem bX5_unitsOf_28_ok : z_ok cX5_unitsOf 28 bX5_unitsOf_28 29 = true := by decide +kernel
theorem iX5_unitsOf_28 (hr : z_run 4 bX5_unitsOf_28 ls st = some (ls', st')) (g : z_J Z mX5_unitsOf R k n Q 29 ls' st' h) : z_J Z mX5_unitsOf R k n Q 28 ls st h := z_jr bX5_unitsOf_28 bX5_unitsOf_28_ok hr g
theorem dX5_unitsOf_29 : decode cX5_unitsOf 29 = .ok (.invokevirtual 216, 3) := by decide +kernel
theorem iX5_unitsOf_29 (ha : z_args 1 st [] = some (As, .ref b :: rest)) (hc : z_chk rest (.ref b :: As) 2 = true) (hh : h r = some (b, .inr (0, fs))) (hR : z_rm R R' 2 k n) (gc : z_J Z mJx4a65c_get_915e3 R' 0 0 Q' 0 (.ref b :: As) [] h) (kr : ∀ (v : Option Value) (h' : zH), Q' (.inl v) h' → z_J Z mX5_unitsOf R (k + R'.cells) (n + R'.slots) Q 32 ls (v.toList ++ rest) h') (kx : ∀ (E : String) (h' : zH), Q' (.inr E) h' → z_JX Z mX5_unitsOf R (k + R'.cells) (n + R'.slots) Q 29 ls E h') : z_J Z mX5_unitsOf R k n Q 29 ls st h := z_callV (M' := mJx4a65c_get_915e3) dX5_unitsOf_29 rfl cs_X5_216 rfl gw397 gw398 ha hh (ci := 0) rfl hR (z_chk1 hc) (z_chk2 hc) (z_chk3 hc) gc kr kx
theorem dX5_unitsOf_32 : decode cX5_unitsOf 32 = .ok (.checkcast 58, 3) := by decide +kernel
theorem iX5_unitsOf_32 (hh : h r = some (a, .inr (5, fs))) (g : z_J Z mX5_unitsOf R k n Q 35 ls (.ref a :: st) h) : z_J Z mX5_unitsOf R k n Q 32 ls (.ref a :: st) h := z_cast dX5_unitsOf_32 rfl hh rfl gw286 g
theorem dX5_unitsOf_35 : decode cX5_unitsOf 35 = .ok (.getfield 77, 3) := by decide +kernel
theorem iX5_unitsOf_35 (hh : h r = some (a, .inr (5, fs))) (hv : fs[4]? = some v) (g : z_J Z mX5_unitsOf R k n Q 38 ls (v :: st) h) : z_J Z mX5_unitsOf R k n Q 35 ls (.ref a :: st) h := z_get dX5_unitsOf_35 rfl fl_X5_77 hh hv g
def bX5_unitsOf_38 : zB := [(38, .iadd, 39, nI 0), (39, .istore_n 2, 40, nI 0)]
theorem bX5_unitsOf_38_ok : z_ok cX5_unitsOf 38 bX5_unitsOf_38 40 = true := by decide +kernel
theorem iX5_unitsOf_38 (hr : z_run 4 bX5_unitsOf_38 ls st = some (ls', st')) (g : z_J Z mX5_unitsOf R k n Q 40 ls' st' h) : z_J Z mX5_unitsOf R k n Q 38 ls st h := z_jr bX5_unitsOf_38 bX5_unitsOf_38_ok hr g
def bX5_unitsOf_40 : zB := [(40, .iinc 3 1, 43, nI 1), (43, .goto (-39), 4, nI 0)]
theorem bX5_unitsOf_40_ok : z_ok cX5_unitsOf 40 bX5_unitsOf_40 4 = true := by decide +kernel
theorem iX5_unitsOf_40 (hr : z_run 4 bX5_unitsOf_40 ls st = some (ls', st')) (g : z_J Z mX5_unitsOf R k n Q 4 ls' st' h) : z_J Z mX5_unitsOf R k n Q 40 ls st h := z_jr bX5_unitsOf_40 bX5_unitsOf_40_ok hr g
def bX5_unitsOf_46 : zB := [(46, .iload_n 2, 47, nI 0)]
theorem bX5_unitsOf_46_ok : z_ok cX5_unitsOf 46 bX5_unitsOf_46 47 = true := by decide +kernel
theorem iX5_unitsOf_46 (hr : z_run 4 bX5_unitsOf_46 ls st = some (ls', st')) (g : z_J Z mX5_unitsOf R k n Q 47 ls' st' h) : z_J Z mX5_unitsOf R k n Q 46 ls st h := z_jr bX5_unitsOf_46 bX5_unitsOf_46_ok hr g
theorem dX5_unitsOf_47 : decode cX5_unitsOf 47 = .ok (.ireturn, 1) := by decide +kernel
theorem iX5_unitsOf_47 (hk : k ≤ R.cells) (hs : n ≤ R.slots) (hq : Q (.inl (some (.int x))) h) : z_J Z mX5_unitsOf R k n Q 47 ls [.int x] h := z_iret (ty := .int) dX5_unitsOf_47 rfl rfl hk hs hq
/-! X5_serveFirst -/
def bX5_serveFirst_0 : zB := [(0, .aload_n 0, 1, nI 0), (1, .iload_n 2, 2, nI 0)]
theorem bX5_serveFirst_0_ok : z_ok cX5_serveFirst 0 bX5_serveFirst_0 2 = true := by decide +kernel
theorem iX5_serveFirst_0 (hr : z_run 5 bX5_serveFirst_0 ls st = some (ls', st')) (g : z_J Z mX5_serveFirst R k n Q 2 ls' st' h) : z_J Z mX5_serveFirst R k n Q 0 ls st h := z_jr bX5_serveFirst_0 bX5_serveFirst_0_ok hr g
theorem dX5_serveFirst_2 : decode cX5_serveFirst 2 = .ok (.invokevirtual 178, 3) := by decide +kernel
theorem iX5_serveFirst_2 (ha : z_args 1 st [] = some (As, .ref b :: rest)) (hc : z_chk rest (.ref b :: As) 3 = true) (hh : h r = some (b, .inr (6, fs))) (hR : z_rm R R' 3 k n) (gc : z_J Z mX5_findGivers R' 0 0 Q' 0 (.ref b :: As) [] h) (kr : ∀ (v : Option Value) (h' : zH), Q' (.inl v) h' → z_J Z mX5_serveFirst R (k + R'.cells) (n + R'.slots) Q 5 ls (v.toList ++ rest) h') (kx : ∀ (E : String) (h' : zH), Q' (.inr E) h' → z_JX Z mX5_serveFirst R (k + R'.cells) (n + R'.slots) Q 2 ls E h') : z_J Z mX5_serveFirst R k n Q 2 ls st h := z_callV (M' := mX5_findGivers) dX5_serveFirst_2 rfl cs_X5_178 rfl gw622 gwp10 ha hh (ci := 6) rfl hR (z_chk1 hc) (z_chk2 hc) (z_chk3 hc) gc kr kx
def bX5_serveFirst_5 : zB := [(5, .aload_n 0, 6, nI 0)]
theorem bX5_serveFirst_5_ok : z_ok cX5_serveFirst 5 bX5_serveFirst_5 6 = true := by decide +kernel
theorem iX5_serveFirst_5 (hr : z_run 5 bX5_serveFirst_5 ls st = some (ls', st')) (g : z_J Z mX5_serveFirst R k n Q 6 ls' st' h) : z_J Z mX5_serveFirst R k n Q 5 ls st h := z_jr bX5_serveFirst_5 bX5_serveFirst_5_ok hr g
theorem dX5_serveFirst_6 : decode cX5_serveFirst 6 = .ok (.getfield 33, 3) := by decide +kernel
theorem iX5_serveFirst_6 (hh : h r = some (a, .inr (6, fs))) (hv : fs[4]? = some v) (g : z_J Z mX5_serveFirst R k n Q 9 ls (v :: st) h) : z_J Z mX5_serveFirst R k n Q 6 ls (.ref a :: st) h := z_get dX5_serveFirst_6 rfl fl_X5_33 hh hv g
theorem dX5_serveFirst_9 : decode cX5_serveFirst 9 = .ok (.invokevirtual 242, 3) := by decide +kernel
theorem iX5_serveFirst_9 (ha : z_args 0 st [] = some (As, .ref b :: rest)) (hc : z_chk rest (.ref b :: As) 1 = true) (hh : h r = some (b, .inr (1, fs))) (hR : z_rm R R' 1 k n) (gc : z_J Z mX0_start R' 0 0 Q' 0 (.ref b :: As) [] h) (kr : ∀ (v : Option Value) (h' : zH), Q' (.inl v) h' → z_J Z mX5_serveFirst R (k + R'.cells) (n + R'.slots) Q 12 ls (v.toList ++ rest) h') (kx : ∀ (E : String) (h' : zH), Q' (.inr E) h' → z_JX Z mX5_serveFirst R (k + R'.cells) (n + R'.slots) Q 9 ls E h') : z_J Z mX5_serveFirst R k n Q 9 ls st h := z_callV (M' := mX0_start) dX5_serveFirst_9 rfl cs_X5_242 rfl gw633 gw634 ha hh (ci := 1) rfl hR (z_chk1 hc) (z_chk2 hc) (z_chk3 hc) gc kr kx
def bX5_serveFirst_12 : zB := [(12, .iconst 0, 13, nI 0), (13, .istore_n 3, 14, nI 0)]
theorem bX5_serveFirst_12_ok : z_ok cX5_serveFirst 12 bX5_serveFirst_12 14 = true := by decide +kernel
theorem iX5_serveFirst_12 (hr : z_run 5 bX5_serveFirst_12 ls st = some (ls', st')) (g : z_J Z mX5_serveFirst R k n Q 14 ls' st' h) : z_J Z mX5_serveFirst R k n Q 12 ls st h := z_jr bX5_serveFirst_12 bX5_serveFirst_12_ok hr g
def bX5_serveFirst_14 : zB := [(14, .iload_n 3, 15, nI 0), (15, .aload_n 0, 16, nI 0)]
theorem bX5_serveFirst_14_ok : z_ok cX5_serveFirst 14 bX5_serveFirst_14 16 = true := by decide +kernel
theorem iX5_serveFirst_14 (hr : z_run 5 bX5_serveFirst_14 ls st = some (ls', st')) (g : z_J Z mX5_serveFirst R k n Q 16 ls' st' h) : z_J Z mX5_serveFirst R k n Q 14 ls st h := z_jr bX5_serveFirst_14 bX5_serveFirst_14_ok hr g
theorem dX5_serveFirst_16 : decode cX5_serveFirst 16 = .ok (.getfield 12, 3) := by decide +kernel
theorem iX5_serveFirst_16 (hh : h r = some (a, .inr (6, fs))) (hv : fs[0]? = some v) (g : z_J Z mX5_serveFirst R k n Q 19 ls (v :: st) h) : z_J Z mX5_serveFirst R k n Q 16 ls (.ref a :: st) h := z_get dX5_serveFirst_16 rfl fl_X5_12 hh hv g
theorem dX5_serveFirst_19 : decode cX5_serveFirst 19 = .ok (.invokevirtual 47, 3) := by decide +kernel
theorem iX5_serveFirst_19 (ha : z_args 0 st [] = some (As, .ref b :: rest)) (hc : z_chk rest (.ref b :: As) 1 = true) (hh : h r = some (b, .inr (0, fs))) (hR : z_rm R R' 1 k n) (gc : z_J Z mJx4a65c_size_8abf5 R' 0 0 Q' 0 (.ref b :: As) [] h) (kr : ∀ (v : Option Value) (h' : zH), Q' (.inl v) h' → z_J Z mX5_serveFirst R (k + R'.cells) (n + R'.slots) Q 22 ls (v.toList ++ rest) h') (kx : ∀ (E : String) (h' : zH), Q' (.inr E) h' → z_JX Z mX5_serveFirst R (k + R'.cells) (n + R'.slots) Q 19 ls E h') : z_J Z mX5_serveFirst R k n Q 19 ls st h := z_callV (M' := mJx4a65c_size_8abf5) dX5_serveFirst_19 rfl cs_X5_47 rfl gw183 gw184 ha hh (ci := 0) rfl hR (z_chk1 hc) (z_chk2 hc) (z_chk3 hc) gc kr kx
theorem dX5_serveFirst_22 : decode cX5_serveFirst 22 = .ok (.if_icmp .ge 31, 3) := by decide +kernel
theorem iX5_serveFirst_22 (kt : y ≤ x → z_J Z mX5_serveFirst R k n Q 53 ls st h) (kf : ¬ y ≤ x → z_J Z mX5_serveFirst R k n Q 25 ls st h) : z_J Z mX5_serveFirst R k n Q 22 ls (.int y :: .int x :: st) h := z_ic_ge dX5_serveFirst_22 (tgt := 53) (by decide) rfl kt kf
def bX5_serveFirst_25 : zB := [(25, .aload_n 0, 26, nI 0)]
theorem bX5_serveFirst_25_ok : z_ok cX5_serveFirst 25 bX5_serveFirst_25 26 = true := by decide +kernel
theorem iX5_serveFirst_25 (hr : z_run 5 bX5_serveFirst_25 ls st = some (ls', st')) (g : z_J Z mX5_serveFirst R k n Q 26 ls' st' h) : z_J Z mX5_serveFirst R k n Q 25 ls st h := z_jr bX5_serveFirst_25 bX5_serveFirst_25_ok hr g
theorem dX5_serveFirst_26 : decode cX5_serveFirst 26 = .ok (.getfield 33, 3) := by decide +kernel
theorem iX5_serveFirst_26 (hh : h r = some (a, .inr (6, fs))) (hv : fs[4]? = some v) (g : z_J Z mX5_serveFirst R k n Q 29 ls (v :: st) h) : z_J Z mX5_serveFirst R k n Q 26 ls (.ref a :: st) h := z_get dX5_serveFirst_26 rfl fl_X5_33 hh hv g
def bX5_serveFirst_29 : zB := [(29, .iload_n 3, 30, nI 0), (30, .aload_n 0, 31, nI 0)]
theorem bX5_serveFirst_29_ok : z_ok cX5_serveFirst 29 bX5_serveFirst_29 31 = true := by decide +kernel
theorem iX5_serveFirst_29 (hr : z_run 5 bX5_serveFirst_29 ls st = some (ls', st')) (g : z_J Z mX5_serveFirst R k n Q 31 ls' st' h) : z_J Z mX5_serveFirst R k n Q 29 ls st h := z_jr bX5_serveFirst_29 bX5_serveFirst_29_ok hr g
theorem dX5_serveFirst_31 : decode cX5_serveFirst 31 = .ok (.getfield 12, 3) := by decide +kernel
theorem iX5_serveFirst_31 (hh : h r = some (a, .inr (6, fs))) (hv : fs[0]? = some v) (g : z_J Z mX5_serveFirst R k n Q 34 ls (v :: st) h) : z_J Z mX5_serveFirst R k n Q 31 ls (.ref a :: st) h := z_get dX5_serveFirst_31 rfl fl_X5_12 hh hv g
def bX5_serveFirst_34 : zB := [(34, .iload_n 3, 35, nI 0)]
theorem bX5_serveFirst_34_ok : z_ok cX5_serveFirst 34 bX5_serveFirst_34 35 = true := by decide +kernel
theorem iX5_serveFirst_34 (hr : z_run 5 bX5_serveFirst_34 ls st = some (ls', st')) (g : z_J Z mX5_serveFirst R k n Q 35 ls' st' h) : z_J Z mX5_serveFirst R k n Q 34 ls st h := z_jr bX5_serveFirst_34 bX5_serveFirst_34_ok hr g
theorem dX5_serveFirst_35 : decode cX5_serveFirst 35 = .ok (.invokevirtual 216, 3) := by decide +kernel
theorem iX5_serveFirst_35 (ha : z_args 1 st [] = some (As, .ref b :: rest)) (hc : z_chk rest (.ref b :: As) 2 = true) (hh : h r = some (b, .inr (0, fs))) (hR : z_rm R R' 2 k n) (gc : z_J Z mJx4a65c_get_915e3 R' 0 0 Q' 0 (.ref b :: As) [] h) (kr : ∀ (v : Option Value) (h' : zH), Q' (.inl v) h' → z_J Z mX5_serveFirst R (k + R'.cells) (n + R'.slots) Q 38 ls (v.toList ++ rest) h') (kx : ∀ (E : String) (h' : zH), Q' (.inr E) h' → z_JX Z mX5_serveFirst R (k + R'.cells) (n + R'.slots) Q 35 ls E h') : z_J Z mX5_serveFirst R k n Q 35 ls st h := z_callV (M' := mJx4a65c_get_915e3) dX5_serveFirst_35 rfl cs_X5_216 rfl gw397 gw398 ha hh (ci := 0) rfl hR (z_chk1 hc) (z_chk2 hc) (z_chk3 hc) gc kr kx
theorem dX5_serveFirst_38 : decode cX5_serveFirst 38 = .ok (.checkcast 58, 3) := by decide +kernel
theorem iX5_serveFirst_38 (hh : h r = some (a, .inr (5, fs))) (g : z_J Z mX5_serveFirst R k n Q 41 ls (.ref a :: st) h) : z_J Z mX5_serveFirst R k n Q 38 ls (.ref a :: st) h := z_cast dX5_serveFirst_38 rfl hh rfl gw286 g
theorem dX5_serveFirst_41 : decode cX5_serveFirst 41 = .ok (.getfield 77, 3) := by decide +kernel
theorem iX5_serveFirst_41 (hh : h r = some (a, .inr (5, fs))) (hv : fs[4]? = some v) (g : z_J Z mX5_serveFirst R k n Q 44 ls (v :: st) h) : z_J Z mX5_serveFirst R k n Q 41 ls (.ref a :: st) h := z_get dX5_serveFirst_41 rfl fl_X5_77 hh hv g
theorem dX5_serveFirst_44 : decode cX5_serveFirst 44 = .ok (.invokevirtual 245, 3) := by decide +kernel
theorem iX5_serveFirst_44 (ha : z_args 2 st [] = some (As, .ref b :: rest)) (hc : z_chk rest (.ref b :: As) 3 = true) (hh : h r = some (b, .inr (1, fs))) (hR : z_rm R R' 3 k n) (gc : z_J Z mX0_putUnits R' 0 0 Q' 0 (.ref b :: As) [] h) (kr : ∀ (v : Option Value) (h' : zH), Q' (.inl v) h' → z_J Z mX5_serveFirst R (k + R'.cells) (n + R'.slots) Q 47 ls (v.toList ++ rest) h') (kx : ∀ (E : String) (h' : zH), Q' (.inr E) h' → z_JX Z mX5_serveFirst R (k + R'.cells) (n + R'.slots) Q 44 ls E h') : z_J Z mX5_serveFirst R k n Q 44 ls st h := z_callV (M' := mX0_putUnits) dX5_serveFirst_44 rfl cs_X5_245 rfl gw637 gw638 ha hh (ci := 1) rfl hR (z_chk1 hc) (z_chk2 hc) (z_chk3 hc) gc kr kx
def bX5_serveFirst_47 : zB := [(47, .iinc 3 1, 50, nI 1), (50, .goto (-36), 14, nI 0)]
theorem bX5_serveFirst_47_ok : z_ok cX5_serveFirst 47 bX5_serveFirst_47 14 = true := by decide +kernel
theorem iX5_serveFirst_47 (hr : z_run 5 bX5_serveFirst_47 ls st = some (ls', st')) (g : z_J Z mX5_serveFirst R k n Q 14 ls' st' h) : z_J Z mX5_serveFirst R k n Q 47 ls st h := z_jr bX5_serveFirst_47 bX5_serveFirst_47_ok hr g
def bX5_serveFirst_53 : zB := [(53, .iconst 0, 54, nI 0), (54, .istore_n 3, 55, nI 0), (55, .iconst 0, 56, nI 0), (56, .istore 4, 58, nI 0)]
theorem bX5_serveFirst_53_ok : z_ok cX5_serveFirst 53 bX5_serveFirst_53 58 = true := by decide +kernel
theorem iX5_serveFirst_53 (hr : z_run 5 bX5_serveFirst_53 ls st = some (ls', st')) (g : z_J Z mX5_serveFirst R k n Q 58 ls' st' h) : z_J Z mX5_serveFirst R k n Q 53 ls st h := z_jr bX5_serveFirst_53 bX5_serveFirst_53_ok hr g
def bX5_serveFirst_58 : zB := [(58, .iload 4, 60, nI 0), (60, .iload_n 1, 61, nI 0)]
theorem bX5_serveFirst_58_ok : z_ok cX5_serveFirst 58 bX5_serveFirst_58 61 = true := by decide +kernel
theorem iX5_serveFirst_58 (hr : z_run 5 bX5_serveFirst_58 ls st = some (ls', st')) (g : z_J Z mX5_serveFirst R k n Q 61 ls' st' h) : z_J Z mX5_serveFirst R k n Q 58 ls st h := z_jr bX5_serveFirst_58 bX5_serveFirst_58_ok hr g
theorem dX5_serveFirst_61 : decode cX5_serveFirst 61 = .ok (.if_icmp .ge 51, 3) := by decide +kernel
theorem iX5_serveFirst_61 (kt : y ≤ x → z_J Z mX5_serveFirst R k n Q 112 ls st h) (kf : ¬ y ≤ x → z_J Z mX5_serveFirst R k n Q 64 ls st h) : z_J Z mX5_serveFirst R k n Q 61 ls (.int y :: .int x :: st) h := z_ic_ge dX5_serveFirst_61 (tgt := 112) (by decide) rfl kt kf
def bX5_serveFirst_64 : zB := [(64, .iload 4, 66, nI 0), (66, .aload_n 0, 67, nI 0)]
theorem bX5_serveFirst_64_ok : z_ok cX5_serveFirst 64 bX5_serveFirst_64 67 = true := by decide +kernel
theorem iX5_serveFirst_64 (hr : z_run 5 bX5_serveFirst_64 ls st = some (ls', st')) (g : z_J Z mX5_serveFirst R k n Q 67 ls' st' h) : z_J Z mX5_serveFirst R k n Q 64 ls st h := z_jr bX5_serveFirst_64 bX5_serveFirst_64_ok hr g
theorem dX5_serveFirst_67 : decode cX5_serveFirst 67 = .ok (.getfield 26, 3) := by decide +kernel
theorem iX5_serveFirst_67 (hh : h r = some (a, .inr (6, fs))) (hv : fs[3]? = some v) (g : z_J Z mX5_serveFirst R k n Q 70 ls (v :: st) h) : z_J Z mX5_serveFirst R k n Q 67 ls (.ref a :: st) h := z_get dX5_serveFirst_67 rfl fl_X5_26 hh hv g
theorem dX5_serveFirst_70 : decode cX5_serveFirst 70 = .ok (.getfield 145, 3) := by decide +kernel
theorem iX5_serveFirst_70 (hh : h r = some (a, .inr (4, fs))) (hv : fs[5]? = some v) (g : z_J Z mX5_serveFirst R k n Q 73 ls (v :: st) h) : z_J Z mX5_serveFirst R k n Q 70 ls (.ref a :: st) h := z_get dX5_serveFirst_70 rfl fl_X5_145 hh hv g
theorem dX5_serveFirst_73 : decode cX5_serveFirst 73 = .ok (.if_icmp .ge 39, 3) := by decide +kernel
theorem iX5_serveFirst_73 (kt : y ≤ x → z_J Z mX5_serveFirst R k n Q 112 ls st h) (kf : ¬ y ≤ x → z_J Z mX5_serveFirst R k n Q 76 ls st h) : z_J Z mX5_serveFirst R k n Q 73 ls (.int y :: .int x :: st) h := z_ic_ge dX5_serveFirst_73 (tgt := 112) (by decide) rfl kt kf
def bX5_serveFirst_76 : zB := [(76, .iload_n 3, 77, nI 0), (77, .aload_n 0, 78, nI 0)]
theorem bX5_serveFirst_76_ok : z_ok cX5_serveFirst 76 bX5_serveFirst_76 78 = true := by decide +kernel
theorem iX5_serveFirst_76 (hr : z_run 5 bX5_serveFirst_76 ls st = some (ls', st')) (g : z_J Z mX5_serveFirst R k n Q 78 ls' st' h) : z_J Z mX5_serveFirst R k n Q 76 ls st h := z_jr bX5_serveFirst_76 bX5_serveFirst_76_ok hr g
theorem dX5_serveFirst_78 : decode cX5_serveFirst 78 = .ok (.getfield 33, 3) := by decide +kernel
theorem iX5_serveFirst_78 (hh : h r = some (a, .inr (6, fs))) (hv : fs[4]? = some v) (g : z_J Z mX5_serveFirst R k n Q 81 ls (v :: st) h) : z_J Z mX5_serveFirst R k n Q 78 ls (.ref a :: st) h := z_get dX5_serveFirst_78 rfl fl_X5_33 hh hv g
def bX5_serveFirst_81 : zB := [(81, .aload_n 0, 82, nI 0)]
theorem bX5_serveFirst_81_ok : z_ok cX5_serveFirst 81 bX5_serveFirst_81 82 = true := by decide +kernel
theorem iX5_serveFirst_81 (hr : z_run 5 bX5_serveFirst_81 ls st = some (ls', st')) (g : z_J Z mX5_serveFirst R k n Q 82 ls' st' h) : z_J Z mX5_serveFirst R k n Q 81 ls st h := z_jr bX5_serveFirst_81 bX5_serveFirst_81_ok hr g
theorem dX5_serveFirst_82 : decode cX5_serveFirst 82 = .ok (.getfield 26, 3) := by decide +kernel
theorem iX5_serveFirst_82 (hh : h r = some (a, .inr (6, fs))) (hv : fs[3]? = some v) (g : z_J Z mX5_serveFirst R k n Q 85 ls (v :: st) h) : z_J Z mX5_serveFirst R k n Q 82 ls (.ref a :: st) h := z_get dX5_serveFirst_82 rfl fl_X5_26 hh hv g
theorem dX5_serveFirst_85 : decode cX5_serveFirst 85 = .ok (.getfield 167, 3) := by decide +kernel
theorem iX5_serveFirst_85 (hh : h r = some (a, .inr (4, fs))) (hv : fs[4]? = some v) (g : z_J Z mX5_serveFirst R k n Q 88 ls (v :: st) h) : z_J Z mX5_serveFirst R k n Q 85 ls (.ref a :: st) h := z_get dX5_serveFirst_85 rfl fl_X5_167 hh hv g
def bX5_serveFirst_88 : zB := [(88, .iload 4, 90, nI 0)]
theorem bX5_serveFirst_88_ok : z_ok cX5_serveFirst 88 bX5_serveFirst_88 90 = true := by decide +kernel
theorem iX5_serveFirst_88 (hr : z_run 5 bX5_serveFirst_88 ls st = some (ls', st')) (g : z_J Z mX5_serveFirst R k n Q 90 ls' st' h) : z_J Z mX5_serveFirst R k n Q 88 ls st h := z_jr bX5_serveFirst_88 bX5_serveFirst_88_ok hr g
theorem dX5_serveFirst_90 : decode cX5_serveFirst 90 = .ok (.iaload, 1) := by decide +kernel
theorem iX5_serveFirst_90 {f : Nat → Int32} (hh : h r = some (a, .inl (0, N, .inl f))) (hi : i = nI j) (hj : j < N) (hN : N < 2 ^ 31) (g : z_J Z mX5_serveFirst R k n Q 91 ls (.int (f j) :: st) h) : z_J Z mX5_serveFirst R k n Q 90 ls (.int i :: .ref a :: st) h := z_iald dX5_serveFirst_90 rfl hh hi hj hN g
def bX5_serveFirst_91 : zB := [(91, .aload_n 0, 92, nI 0)]
theorem bX5_serveFirst_91_ok : z_ok cX5_serveFirst 91 bX5_serveFirst_91 92 = true := by decide +kernel
theorem iX5_serveFirst_91 (hr : z_run 5 bX5_serveFirst_91 ls st = some (ls', st')) (g : z_J Z mX5_serveFirst R k n Q 92 ls' st' h) : z_J Z mX5_serveFirst R k n Q 91 ls st h := z_jr bX5_serveFirst_91 bX5_serveFirst_91_ok hr g
theorem dX5_serveFirst_92 : decode cX5_serveFirst 92 = .ok (.getfield 26, 3) := by decide +kernel
theorem iX5_serveFirst_92 (hh : h r = some (a, .inr (6, fs))) (hv : fs[3]? = some v) (g : z_J Z mX5_serveFirst R k n Q 95 ls (v :: st) h) : z_J Z mX5_serveFirst R k n Q 92 ls (.ref a :: st) h := z_get dX5_serveFirst_92 rfl fl_X5_26 hh hv g
theorem dX5_serveFirst_95 : decode cX5_serveFirst 95 = .ok (.getfield 160, 3) := by decide +kernel
theorem iX5_serveFirst_95 (hh : h r = some (a, .inr (4, fs))) (hv : fs[3]? = some v) (g : z_J Z mX5_serveFirst R k n Q 98 ls (v :: st) h) : z_J Z mX5_serveFirst R k n Q 95 ls (.ref a :: st) h := z_get dX5_serveFirst_95 rfl fl_X5_160 hh hv g
def bX5_serveFirst_98 : zB := [(98, .iload 4, 100, nI 0)]
theorem bX5_serveFirst_98_ok : z_ok cX5_serveFirst 98 bX5_serveFirst_98 100 = true := by decide +kernel
theorem iX5_serveFirst_98 (hr : z_run 5 bX5_serveFirst_98 ls st = some (ls', st')) (g : z_J Z mX5_serveFirst R k n Q 100 ls' st' h) : z_J Z mX5_serveFirst R k n Q 98 ls st h := z_jr bX5_serveFirst_98 bX5_serveFirst_98_ok hr g
theorem dX5_serveFirst_100 : decode cX5_serveFirst 100 = .ok (.iaload, 1) := by decide +kernel
theorem iX5_serveFirst_100 {f : Nat → Int32} (hh : h r = some (a, .inl (0, N, .inl f))) (hi : i = nI j) (hj : j < N) (hN : N < 2 ^ 31) (g : z_J Z mX5_serveFirst R k n Q 101 ls (.int (f j) :: st) h) : z_J Z mX5_serveFirst R k n Q 100 ls (.int i :: .ref a :: st) h := z_iald dX5_serveFirst_100 rfl hh hi hj hN g
theorem dX5_serveFirst_101 : decode cX5_serveFirst 101 = .ok (.invokevirtual 170, 3) := by decide +kernel
theorem iX5_serveFirst_101 (ha : z_args 2 st [] = some (As, .ref b :: rest)) (hc : z_chk rest (.ref b :: As) 7 = true) (hh : h r = some (b, .inr (1, fs))) (hR : z_rm R R' 7 k n) (gc : z_J Z mX0_serve R' 0 0 Q' 0 (.ref b :: As) [] h) (kr : ∀ (v : Option Value) (h' : zH), Q' (.inl v) h' → z_J Z mX5_serveFirst R (k + R'.cells) (n + R'.slots) Q 104 ls (v.toList ++ rest) h') (kx : ∀ (E : String) (h' : zH), Q' (.inr E) h' → z_JX Z mX5_serveFirst R (k + R'.cells) (n + R'.slots) Q 101 ls E h') : z_J Z mX5_serveFirst R k n Q 101 ls st h := z_callV (M' := mX0_serve) dX5_serveFirst_101 rfl cs_X5_170 rfl gw644 gw645 ha hh (ci := 1) rfl hR (z_chk1 hc) (z_chk2 hc) (z_chk3 hc) gc kr kx
def bX5_serveFirst_104 : zB := [(104, .iadd, 105, nI 0), (105, .istore_n 3, 106, nI 0), (106, .iinc 4 1, 109, nI 1), (109, .goto (-51), 58, nI 0)]
theorem bX5_serveFirst_104_ok : z_ok cX5_serveFirst 104 bX5_serveFirst_104 58 = true := by decide +kernel
theorem iX5_serveFirst_104 (hr : z_run 5 bX5_serveFirst_104 ls st = some (ls', st')) (g : z_J Z mX5_serveFirst R k n Q 58 ls' st' h) : z_J Z mX5_serveFirst R k n Q 104 ls st h := z_jr bX5_serveFirst_104 bX5_serveFirst_104_ok hr g
def bX5_serveFirst_112 : zB := [(112, .iload_n 3, 113, nI 0)]
theorem bX5_serveFirst_112_ok : z_ok cX5_serveFirst 112 bX5_serveFirst_112 113 = true := by decide +kernel
theorem iX5_serveFirst_112 (hr : z_run 5 bX5_serveFirst_112 ls st = some (ls', st')) (g : z_J Z mX5_serveFirst R k n Q 113 ls' st' h) : z_J Z mX5_serveFirst R k n Q 112 ls st h := z_jr bX5_serveFirst_112 bX5_serveFirst_112_ok hr g
theorem dX5_serveFirst_113 : decode cX5_serveFirst 113 = .ok (.ireturn, 1) := by decide +kernel
theorem iX5_serveFirst_113 (hk : k ≤ R.cells) (hs : n ≤ R.slots) (hq : Q (.inl (some (.int x))) h) : z_J Z mX5_serveFirst R k n Q 113 ls [.int x] h := z_iret (ty := .int) dX5_serveFirst_113 rfl rfl hk hs hq
end ZX
