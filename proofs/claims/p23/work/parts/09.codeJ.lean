section ZJ
variable {Z : zZ} {R R' : Room} {k n : Nat} {Q Q' : zO → zH → Prop} {ls ls' st st' As rest : List Value} {h : zH} {a b r rv j N : Nat} {fs vs : List Value} {v : Value} {x y i : Int32}
/-! J9_max_7cf53 -/
def bJ9_max_7cf53_0 : zB := [(0, .iload_n 0, 1, nI 0), (1, .iload_n 1, 2, nI 0)]
theorem bJ9_max_7cf53_0_ok : z_ok cJ9_max_7cf53 0 bJ9_max_7cf53_0 2 = true := by decide +kernel
theorem iJ9_max_7cf53_0 (hr : z_run 2 bJ9_max_7cf53_0 ls st = some (ls', st')) (g : z_J Z mJ9_max_7cf53 R k n Q 2 ls' st' h) : z_J Z mJ9_max_7cf53 R k n Q 0 ls st h := z_jr bJ9_max_7cf53_0 bJ9_max_7cf53_0_ok hr g
theorem dJ9_max_7cf53_2 : decode cJ9_max_7cf53 2 = .ok (.if_icmp .lt 7, 3) := by decide +kernel
theorem iJ9_max_7cf53_2 (kt : x < y → z_J Z mJ9_max_7cf53 R k n Q 9 ls st h) (kf : ¬ x < y → z_J Z mJ9_max_7cf53 R k n Q 5 ls st h) : z_J Z mJ9_max_7cf53 R k n Q 2 ls (.int y :: .int x :: st) h := z_ic_lt dJ9_max_7cf53_2 (tgt := 9) (by decide) rfl kt kf
def bJ9_max_7cf53_5 : zB := [(5, .iload_n 0, 6, nI 0), (6, .goto 4, 10, nI 0)]
theorem bJ9_max_7cf53_5_ok : z_ok cJ9_max_7cf53 5 bJ9_max_7cf53_5 10 = true := by decide +kernel
theorem iJ9_max_7cf53_5 (hr : z_run 2 bJ9_max_7cf53_5 ls st = some (ls', st')) (g : z_J Z mJ9_max_7cf53 R k n Q 10 ls' st' h) : z_J Z mJ9_max_7cf53 R k n Q 5 ls st h := z_jr bJ9_max_7cf53_5 bJ9_max_7cf53_5_ok hr g
def bJ9_max_7cf53_9 : zB := [(9, .iload_n 1, 10, nI 0)]
theorem bJ9_max_7cf53_9_ok : z_ok cJ9_max_7cf53 9 bJ9_max_7cf53_9 10 = true := by decide +kernel
theorem iJ9_max_7cf53_9 (hr : z_run 2 bJ9_max_7cf53_9 ls st = some (ls', st')) (g : z_J Z mJ9_max_7cf53 R k n Q 10 ls' st' h) : z_J Z mJ9_max_7cf53 R k n Q 9 ls st h := z_jr bJ9_max_7cf53_9 bJ9_max_7cf53_9_ok hr g
theorem dJ9_max_7cf53_10 : decode cJ9_max_7cf53 10 = .ok (.ireturn, 1) := by decide +kernel
theorem iJ9_max_7cf53_10 (hk : k ≤ R.cells) (hs : n ≤ R.slots) (hq : Q (.inl (some (.int x))) h) : z_J Z mJ9_max_7cf53 R k n Q 10 ls [.int x] h := z_iret (ty := .int) dJ9_max_7cf53_10 rfl rfl hk hs hq
/-! J9_min_7cf53 -/
def bJ9_min_7cf53_0 : zB := [(0, .iload_n 0, 1, nI 0), (1, .iload_n 1, 2, nI 0)]
theorem bJ9_min_7cf53_0_ok : z_ok cJ9_min_7cf53 0 bJ9_min_7cf53_0 2 = true := by decide +kernel
theorem iJ9_min_7cf53_0 (hr : z_run 2 bJ9_min_7cf53_0 ls st = some (ls', st')) (g : z_J Z mJ9_min_7cf53 R k n Q 2 ls' st' h) : z_J Z mJ9_min_7cf53 R k n Q 0 ls st h := z_jr bJ9_min_7cf53_0 bJ9_min_7cf53_0_ok hr g
theorem dJ9_min_7cf53_2 : decode cJ9_min_7cf53 2 = .ok (.if_icmp .gt 7, 3) := by decide +kernel
theorem iJ9_min_7cf53_2 (kt : y < x → z_J Z mJ9_min_7cf53 R k n Q 9 ls st h) (kf : ¬ y < x → z_J Z mJ9_min_7cf53 R k n Q 5 ls st h) : z_J Z mJ9_min_7cf53 R k n Q 2 ls (.int y :: .int x :: st) h := z_ic_gt dJ9_min_7cf53_2 (tgt := 9) (by decide) rfl kt kf
def bJ9_min_7cf53_5 : zB := [(5, .iload_n 0, 6, nI 0), (6, .goto 4, 10, nI 0)]
theorem bJ9_min_7cf53_5_ok : z_ok cJ9_min_7cf53 5 bJ9_min_7cf53_5 10 = true := by decide +kernel
theorem iJ9_min_7cf53_5 (hr : z_run 2 bJ9_min_7cf53_5 ls st = some (ls', st')) (g : z_J Z mJ9_min_7cf53 R k n Q 10 ls' st' h) : z_J Z mJ9_min_7cf53 R k n Q 5 ls st h := z_jr bJ9_min_7cf53_5 bJ9_min_7cf53_5_ok hr g
def bJ9_min_7cf53_9 : zB := [(9, .iload_n 1, 10, nI 0)]
theorem bJ9_min_7cf53_9_ok : z_ok cJ9_min_7cf53 9 bJ9_min_7cf53_9 10 = true := by decide +kernel
theorem iJ9_min_7cf53_9 (hr : z_run 2 bJ9_min_7cf53_9 ls st = some (ls', st')) (g : z_J Z mJ9_min_7cf53 R k n Q 10 ls' st' h) : z_J Z mJ9_min_7cf53 R k n Q 9 ls st h := z_jr bJ9_min_7cf53_9 bJ9_min_7cf53_9_ok hr g
theorem dJ9_min_7cf53_10 : decode cJ9_min_7cf53 10 = .ok (.ireturn, 1) := by decide +kernel
theorem iJ9_min_7cf53_10 (hk : k ≤ R.cells) (hs : n ≤ R.slots) (hq : Q (.inl (some (.int x))) h) : z_J Z mJ9_min_7cf53 R k n Q 10 ls [.int x] h := z_iret (ty := .int) dJ9_min_7cf53_10 rfl rfl hk hs hq
/-! Jxa1e45_init_da8c8 -/
def bJxa1e45_init_da8c8_0 : zB := [(0, .aload_n 0, 1, nI 0)]
theorem bJxa1e45_init_da8c8_0_ok : z_ok cJxa1e45_init_da8c8 0 bJxa1e45_init_da8c8_0 1 = true := by decide +kernel
theorem iJxa1e45_init_da8c8_0 (hr : z_run 1 bJxa1e45_init_da8c8_0 ls st = some (ls', st')) (g : z_J Z mJxa1e45_init_da8c8 R k n Q 1 ls' st' h) : z_J Z mJxa1e45_init_da8c8 R k n Q 0 ls st h := z_jr bJxa1e45_init_da8c8_0 bJxa1e45_init_da8c8_0_ok hr g
theorem dJxa1e45_init_da8c8_1 : decode cJxa1e45_init_da8c8 1 = .ok (.invokespecial 1, 3) := by decide +kernel
theorem iJxa1e45_init_da8c8_1 (hst : (st.map fun v => v.category).sum + 12 ≤ R.locals) (hf : 1 ≤ R.frames) (g : z_J Z mJxa1e45_init_da8c8 R k n Q 4 ls st h) : z_J Z mJxa1e45_init_da8c8 R k n Q 1 ls (.ref a :: st) h := z_objI dJxa1e45_init_da8c8_1 rfl gw58 gw45 gw_objInit hst hf g
theorem dJxa1e45_init_da8c8_4 : decode cJxa1e45_init_da8c8 4 = .ok (.return_, 1) := by decide +kernel
theorem iJxa1e45_init_da8c8_4 (hk : k ≤ R.cells) (hs : n ≤ R.slots) (hq : Q (.inl none) h) : z_J Z mJxa1e45_init_da8c8 R k n Q 4 ls [] h := z_vret dJxa1e45_init_da8c8_4 rfl hk hs hq
/-! Jxc12de_init_da8c8 -/
def bJxc12de_init_da8c8_0 : zB := [(0, .aload_n 0, 1, nI 0)]
theorem bJxc12de_init_da8c8_0_ok : z_ok cJxc12de_init_da8c8 0 bJxc12de_init_da8c8_0 1 = true := by decide +kernel
theorem iJxc12de_init_da8c8_0 (hr : z_run 1 bJxc12de_init_da8c8_0 ls st = some (ls', st')) (g : z_J Z mJxc12de_init_da8c8 R k n Q 1 ls' st' h) : z_J Z mJxc12de_init_da8c8 R k n Q 0 ls st h := z_jr bJxc12de_init_da8c8_0 bJxc12de_init_da8c8_0_ok hr g
theorem dJxc12de_init_da8c8_1 : decode cJxc12de_init_da8c8 1 = .ok (.invokespecial 1, 3) := by decide +kernel
theorem iJxc12de_init_da8c8_1 (ha : z_args 0 st [] = some (As, .ref b :: rest)) (hc : z_chk rest (.ref b :: As) 1 = true) (hR : z_rm R R' 1 k n) (hq : ∀ E h', ¬ Q' (.inr E) h') (gc : z_J Z mJxa1e45_init_da8c8 R' 0 0 Q' 0 (.ref b :: As) [] h) (kr : ∀ (v : Option Value) (h' : zH), Q' (.inl v) h' → z_J Z mJxc12de_init_da8c8 R (k + R'.cells) (n + R'.slots) Q 4 ls (v.toList ++ rest) h') : z_J Z mJxc12de_init_da8c8 R k n Q 1 ls st h := z_callI (M' := mJxa1e45_init_da8c8) dJxc12de_init_da8c8_1 rfl cs_Jxc12de_1 rfl rfl gw56 rfl ha hR (z_chk1 hc) (z_chk2 hc) (z_chk3 hc) hq gc kr
def bJxc12de_init_da8c8_4 : zB := [(4, .aload_n 0, 5, nI 0), (5, .iconst 0, 6, nI 0)]
theorem bJxc12de_init_da8c8_4_ok : z_ok cJxc12de_init_da8c8 4 bJxc12de_init_da8c8_4 6 = true := by decide +kernel
theorem iJxc12de_init_da8c8_4 (hr : z_run 1 bJxc12de_init_da8c8_4 ls st = some (ls', st')) (g : z_J Z mJxc12de_init_da8c8 R k n Q 6 ls' st' h) : z_J Z mJxc12de_init_da8c8 R k n Q 4 ls st h := z_jr bJxc12de_init_da8c8_4 bJxc12de_init_da8c8_4_ok hr g
theorem dJxc12de_init_da8c8_6 : decode cJxc12de_init_da8c8 6 = .ok (.putfield 7, 3) := by decide +kernel
theorem iJxc12de_init_da8c8_6 (hh : h r = some (a, .inr (0, fs))) (hl : Nat.blt 0 fs.length = true) (g : z_J Z mJxc12de_init_da8c8 R k n Q 9 ls st (z_u h r (a, .inr (0, fs.set 0 (.int x))))) : z_J Z mJxc12de_init_da8c8 R k n Q 6 ls ((.int x) :: .ref a :: st) h := z_put dJxc12de_init_da8c8_6 rfl fl_Jxc12de_7 fw_Jx4a65c_0 rfl hh rfl rfl (by simpa [Nat.blt_eq] using hl) g
theorem dJxc12de_init_da8c8_9 : decode cJxc12de_init_da8c8 9 = .ok (.return_, 1) := by decide +kernel
theorem iJxc12de_init_da8c8_9 (hk : k ≤ R.cells) (hs : n ≤ R.slots) (hq : Q (.inl none) h) : z_J Z mJxc12de_init_da8c8 R k n Q 9 ls [] h := z_vret dJxc12de_init_da8c8_9 rfl hk hs hq
/-! Jx4a65c_init_da8c8 -/
def bJx4a65c_init_da8c8_0 : zB := [(0, .aload_n 0, 1, nI 0)]
theorem bJx4a65c_init_da8c8_0_ok : z_ok cJx4a65c_init_da8c8 0 bJx4a65c_init_da8c8_0 1 = true := by decide +kernel
theorem iJx4a65c_init_da8c8_0 (hr : z_run 1 bJx4a65c_init_da8c8_0 ls st = some (ls', st')) (g : z_J Z mJx4a65c_init_da8c8 R k n Q 1 ls' st' h) : z_J Z mJx4a65c_init_da8c8 R k n Q 0 ls st h := z_jr bJx4a65c_init_da8c8_0 bJx4a65c_init_da8c8_0_ok hr g
theorem dJx4a65c_init_da8c8_1 : decode cJx4a65c_init_da8c8 1 = .ok (.invokespecial 1, 3) := by decide +kernel
theorem iJx4a65c_init_da8c8_1 (ha : z_args 0 st [] = some (As, .ref b :: rest)) (hc : z_chk rest (.ref b :: As) 1 = true) (hR : z_rm R R' 1 k n) (hq : ∀ E h', ¬ Q' (.inr E) h') (gc : z_J Z mJxc12de_init_da8c8 R' 0 0 Q' 0 (.ref b :: As) [] h) (kr : ∀ (v : Option Value) (h' : zH), Q' (.inl v) h' → z_J Z mJx4a65c_init_da8c8 R (k + R'.cells) (n + R'.slots) Q 4 ls (v.toList ++ rest) h') : z_J Z mJx4a65c_init_da8c8 R k n Q 1 ls st h := z_callI (M' := mJxc12de_init_da8c8) dJx4a65c_init_da8c8_1 rfl cs_Jx4a65c_1 rfl rfl gw53 rfl ha hR (z_chk1 hc) (z_chk2 hc) (z_chk3 hc) hq gc kr
def bJx4a65c_init_da8c8_4 : zB := [(4, .aload_n 0, 5, nI 0)]
theorem bJx4a65c_init_da8c8_4_ok : z_ok cJx4a65c_init_da8c8 4 bJx4a65c_init_da8c8_4 5 = true := by decide +kernel
theorem iJx4a65c_init_da8c8_4 (hr : z_run 1 bJx4a65c_init_da8c8_4 ls st = some (ls', st')) (g : z_J Z mJx4a65c_init_da8c8 R k n Q 5 ls' st' h) : z_J Z mJx4a65c_init_da8c8 R k n Q 4 ls st h := z_jr bJx4a65c_init_da8c8_4 bJx4a65c_init_da8c8_4_ok hr g
theorem dJx4a65c_init_da8c8_5 : decode cJx4a65c_init_da8c8 5 = .ok (.getstatic 39, 3) := by decide +kernel
theorem iJx4a65c_init_da8c8_5 (g : z_J Z mJx4a65c_init_da8c8 R k n Q 8 ls (.ref Z.2.2.2 :: st) h) : z_J Z mJx4a65c_init_da8c8 R k n Q 5 ls st h := z_gets dJx4a65c_init_da8c8_5 rfl gw59 g
theorem dJx4a65c_init_da8c8_8 : decode cJx4a65c_init_da8c8 8 = .ok (.putfield 9, 3) := by decide +kernel
theorem iJx4a65c_init_da8c8_8 (hh : h r = some (a, .inr (0, fs))) (hl : Nat.blt 1 fs.length = true) (g : z_J Z mJx4a65c_init_da8c8 R k n Q 11 ls st (z_u h r (a, .inr (0, fs.set 1 (.ref b))))) : z_J Z mJx4a65c_init_da8c8 R k n Q 8 ls ((.ref b) :: .ref a :: st) h := z_put dJx4a65c_init_da8c8_8 rfl fl_Jx4a65c_9 fw_Jx4a65c_1 rfl hh rfl rfl (by simpa [Nat.blt_eq] using hl) g
theorem iJx4a65c_init_da8c8_8N (hh : h r = some (a, .inr (0, fs))) (hl : Nat.blt 1 fs.length = true) (g : z_J Z mJx4a65c_init_da8c8 R k n Q 11 ls st (z_u h r (a, .inr (0, fs.set 1 (.null))))) : z_J Z mJx4a65c_init_da8c8 R k n Q 8 ls ((.null) :: .ref a :: st) h := z_put dJx4a65c_init_da8c8_8 rfl fl_Jx4a65c_9 fw_Jx4a65c_1 rfl hh rfl rfl (by simpa [Nat.blt_eq] using hl) g
theorem dJx4a65c_init_da8c8_11 : decode cJx4a65c_init_da8c8 11 = .ok (.return_, 1) := by decide +kernel
theorem iJx4a65c_init_da8c8_11 (hk : k ≤ R.cells) (hs : n ≤ R.slots) (hq : Q (.inl none) h) : z_J Z mJx4a65c_init_da8c8 R k n Q 11 ls [] h := z_vret dJx4a65c_init_da8c8_11 rfl hk hs hq
/-! Jx4a65c_grow_92f84 -/
def bJx4a65c_grow_92f84_0 : zB := [(0, .aload_n 0, 1, nI 0)]
theorem bJx4a65c_grow_92f84_0_ok : z_ok cJx4a65c_grow_92f84 0 bJx4a65c_grow_92f84_0 1 = true := by decide +kernel
theorem iJx4a65c_grow_92f84_0 (hr : z_run 4 bJx4a65c_grow_92f84_0 ls st = some (ls', st')) (g : z_J Z mJx4a65c_grow_92f84 R k n Q 1 ls' st' h) : z_J Z mJx4a65c_grow_92f84 R k n Q 0 ls st h := z_jr bJx4a65c_grow_92f84_0 bJx4a65c_grow_92f84_0_ok hr g
theorem dJx4a65c_grow_92f84_1 : decode cJx4a65c_grow_92f84 1 = .ok (.getfield 9, 3) := by decide +kernel
theorem iJx4a65c_grow_92f84_1 (hh : h r = some (a, .inr (0, fs))) (hv : fs[1]? = some v) (g : z_J Z mJx4a65c_grow_92f84 R k n Q 4 ls (v :: st) h) : z_J Z mJx4a65c_grow_92f84 R k n Q 1 ls (.ref a :: st) h := z_get dJx4a65c_grow_92f84_1 rfl fl_Jx4a65c_9 hh hv g
theorem dJx4a65c_grow_92f84_4 : decode cJx4a65c_grow_92f84 4 = .ok (.arraylength, 1) := by decide +kernel
theorem iJx4a65c_grow_92f84_4 {t : Nat} {x : vp_A} (hh : h r = some (a, .inl (t, x))) (ht : t < 6) (g : z_J Z mJx4a65c_grow_92f84 R k n Q 5 ls (.int (nI x.1) :: st) h) : z_J Z mJx4a65c_grow_92f84 R k n Q 4 ls (.ref a :: st) h := z_alen (ty := 0) dJx4a65c_grow_92f84_4 rfl hh ht g
theorem iJx4a65c_grow_92f84_4t (g : z_J Z mJx4a65c_grow_92f84 R k n Q 5 ls (.int (nI 0) :: st) h) : z_J Z mJx4a65c_grow_92f84 R k n Q 4 ls (.ref Z.2.2.2 :: st) h := z_tlen dJx4a65c_grow_92f84_4 rfl g
def bJx4a65c_grow_92f84_5 : zB := [(5, .istore_n 2, 6, nI 0), (6, .iload_n 2, 7, nI 0)]
theorem bJx4a65c_grow_92f84_5_ok : z_ok cJx4a65c_grow_92f84 5 bJx4a65c_grow_92f84_5 7 = true := by decide +kernel
theorem iJx4a65c_grow_92f84_5 (hr : z_run 4 bJx4a65c_grow_92f84_5 ls st = some (ls', st')) (g : z_J Z mJx4a65c_grow_92f84 R k n Q 7 ls' st' h) : z_J Z mJx4a65c_grow_92f84 R k n Q 5 ls st h := z_jr bJx4a65c_grow_92f84_5 bJx4a65c_grow_92f84_5_ok hr g
theorem dJx4a65c_grow_92f84_7 : decode cJx4a65c_grow_92f84 7 = .ok (.ifCond .gt 13, 3) := by decide +kernel
theorem iJx4a65c_grow_92f84_7 (kt : 0 < x → z_J Z mJx4a65c_grow_92f84 R k n Q 20 ls st h) (kf : ¬ 0 < x → z_J Z mJx4a65c_grow_92f84 R k n Q 10 ls st h) : z_J Z mJx4a65c_grow_92f84 R k n Q 7 ls (.int x :: st) h := z_if_gt dJx4a65c_grow_92f84_7 (tgt := 20) (by decide) rfl kt kf
def bJx4a65c_grow_92f84_10 : zB := [(10, .aload_n 0, 11, nI 0)]
theorem bJx4a65c_grow_92f84_10_ok : z_ok cJx4a65c_grow_92f84 10 bJx4a65c_grow_92f84_10 11 = true := by decide +kernel
theorem iJx4a65c_grow_92f84_10 (hr : z_run 4 bJx4a65c_grow_92f84_10 ls st = some (ls', st')) (g : z_J Z mJx4a65c_grow_92f84 R k n Q 11 ls' st' h) : z_J Z mJx4a65c_grow_92f84 R k n Q 10 ls st h := z_jr bJx4a65c_grow_92f84_10 bJx4a65c_grow_92f84_10_ok hr g
theorem dJx4a65c_grow_92f84_11 : decode cJx4a65c_grow_92f84 11 = .ok (.getfield 9, 3) := by decide +kernel
theorem iJx4a65c_grow_92f84_11 (hh : h r = some (a, .inr (0, fs))) (hv : fs[1]? = some v) (g : z_J Z mJx4a65c_grow_92f84 R k n Q 14 ls (v :: st) h) : z_J Z mJx4a65c_grow_92f84 R k n Q 11 ls (.ref a :: st) h := z_get dJx4a65c_grow_92f84_11 rfl fl_Jx4a65c_9 hh hv g
theorem dJx4a65c_grow_92f84_14 : decode cJx4a65c_grow_92f84 14 = .ok (.getstatic 39, 3) := by decide +kernel
theorem iJx4a65c_grow_92f84_14 (g : z_J Z mJx4a65c_grow_92f84 R k n Q 17 ls (.ref Z.2.2.2 :: st) h) : z_J Z mJx4a65c_grow_92f84 R k n Q 14 ls st h := z_gets dJx4a65c_grow_92f84_14 rfl gw59 g
theorem dJx4a65c_grow_92f84_17 : decode cJx4a65c_grow_92f84 17 = .ok (.if_acmp .eq 28, 3) := by decide +kernel
theorem iJx4a65c_grow_92f84_17 (g : z_J Z mJx4a65c_grow_92f84 R k n Q 45 ls st h) : z_J Z mJx4a65c_grow_92f84 R k n Q 17 ls (.ref a :: .ref a :: st) h := z_acmp_eq dJx4a65c_grow_92f84_17 (tgt := 45) (by decide) g
def bJx4a65c_grow_92f84_20 : zB := [(20, .iload_n 2, 21, nI 0), (21, .iload_n 1, 22, nI 0), (22, .iload_n 2, 23, nI 0), (23, .isub, 24, nI 0), (24, .iload_n 2, 25, nI 0), (25, .iconst 1, 26, nI 1), (26, .ishr, 27, nI 0)]
theorem bJx4a65c_grow_92f84_20_ok : z_ok cJx4a65c_grow_92f84 20 bJx4a65c_grow_92f84_20 27 = true := by decide +kernel
theorem iJx4a65c_grow_92f84_20 (hr : z_run 4 bJx4a65c_grow_92f84_20 ls st = some (ls', st')) (g : z_J Z mJx4a65c_grow_92f84 R k n Q 27 ls' st' h) : z_J Z mJx4a65c_grow_92f84 R k n Q 20 ls st h := z_jr bJx4a65c_grow_92f84_20 bJx4a65c_grow_92f84_20_ok hr g
theorem dJx4a65c_grow_92f84_27 : decode cJx4a65c_grow_92f84 27 = .ok (.invokestatic 73, 3) := by decide +kernel
def bJx4a65c_grow_92f84_30 : zB := [(30, .istore_n 3, 31, nI 0), (31, .aload_n 0, 32, nI 0), (32, .aload_n 0, 33, nI 0)]
theorem bJx4a65c_grow_92f84_30_ok : z_ok cJx4a65c_grow_92f84 30 bJx4a65c_grow_92f84_30 33 = true := by decide +kernel
theorem iJx4a65c_grow_92f84_30 (hr : z_run 4 bJx4a65c_grow_92f84_30 ls st = some (ls', st')) (g : z_J Z mJx4a65c_grow_92f84 R k n Q 33 ls' st' h) : z_J Z mJx4a65c_grow_92f84 R k n Q 30 ls st h := z_jr bJx4a65c_grow_92f84_30 bJx4a65c_grow_92f84_30_ok hr g
theorem dJx4a65c_grow_92f84_33 : decode cJx4a65c_grow_92f84 33 = .ok (.getfield 9, 3) := by decide +kernel
theorem iJx4a65c_grow_92f84_33 (hh : h r = some (a, .inr (0, fs))) (hv : fs[1]? = some v) (g : z_J Z mJx4a65c_grow_92f84 R k n Q 36 ls (v :: st) h) : z_J Z mJx4a65c_grow_92f84 R k n Q 33 ls (.ref a :: st) h := z_get dJx4a65c_grow_92f84_33 rfl fl_Jx4a65c_9 hh hv g
def bJx4a65c_grow_92f84_36 : zB := [(36, .iload_n 3, 37, nI 0)]
theorem bJx4a65c_grow_92f84_36_ok : z_ok cJx4a65c_grow_92f84 36 bJx4a65c_grow_92f84_36 37 = true := by decide +kernel
theorem iJx4a65c_grow_92f84_36 (hr : z_run 4 bJx4a65c_grow_92f84_36 ls st = some (ls', st')) (g : z_J Z mJx4a65c_grow_92f84 R k n Q 37 ls' st' h) : z_J Z mJx4a65c_grow_92f84 R k n Q 36 ls st h := z_jr bJx4a65c_grow_92f84_36 bJx4a65c_grow_92f84_36_ok hr g
theorem dJx4a65c_grow_92f84_37 : decode cJx4a65c_grow_92f84 37 = .ok (.invokestatic 66, 3) := by decide +kernel
def bJx4a65c_grow_92f84_40 : zB := [(40, .dup_x1, 41, nI 0)]
theorem bJx4a65c_grow_92f84_40_ok : z_ok cJx4a65c_grow_92f84 40 bJx4a65c_grow_92f84_40 41 = true := by decide +kernel
theorem iJx4a65c_grow_92f84_40 (hr : z_run 4 bJx4a65c_grow_92f84_40 ls st = some (ls', st')) (g : z_J Z mJx4a65c_grow_92f84 R k n Q 41 ls' st' h) : z_J Z mJx4a65c_grow_92f84 R k n Q 40 ls st h := z_jr bJx4a65c_grow_92f84_40 bJx4a65c_grow_92f84_40_ok hr g
theorem dJx4a65c_grow_92f84_41 : decode cJx4a65c_grow_92f84 41 = .ok (.putfield 9, 3) := by decide +kernel
theorem iJx4a65c_grow_92f84_41 (hh : h r = some (a, .inr (0, fs))) (hl : Nat.blt 1 fs.length = true) (g : z_J Z mJx4a65c_grow_92f84 R k n Q 44 ls st (z_u h r (a, .inr (0, fs.set 1 (.ref b))))) : z_J Z mJx4a65c_grow_92f84 R k n Q 41 ls ((.ref b) :: .ref a :: st) h := z_put dJx4a65c_grow_92f84_41 rfl fl_Jx4a65c_9 fw_Jx4a65c_1 rfl hh rfl rfl (by simpa [Nat.blt_eq] using hl) g
theorem iJx4a65c_grow_92f84_41N (hh : h r = some (a, .inr (0, fs))) (hl : Nat.blt 1 fs.length = true) (g : z_J Z mJx4a65c_grow_92f84 R k n Q 44 ls st (z_u h r (a, .inr (0, fs.set 1 (.null))))) : z_J Z mJx4a65c_grow_92f84 R k n Q 41 ls ((.null) :: .ref a :: st) h := z_put dJx4a65c_grow_92f84_41 rfl fl_Jx4a65c_9 fw_Jx4a65c_1 rfl hh rfl rfl (by simpa [Nat.blt_eq] using hl) g
theorem dJx4a65c_grow_92f84_44 : decode cJx4a65c_grow_92f84 44 = .ok (.areturn, 1) := by decide +kernel
theorem iJx4a65c_grow_92f84_44 (hk : k ≤ R.cells) (hs : n ≤ R.slots) (hq : Q (.inl (some (.ref a))) h) : z_J Z mJx4a65c_grow_92f84 R k n Q 44 ls [.ref a] h := z_aret (nm := "") dJx4a65c_grow_92f84_44 (Or.inr ⟨_, rfl⟩) hk hs hq
def bJx4a65c_grow_92f84_45 : zB := [(45, .aload_n 0, 46, nI 0), (46, .bipush 10, 48, nI 10), (48, .iload_n 1, 49, nI 0)]
theorem bJx4a65c_grow_92f84_45_ok : z_ok cJx4a65c_grow_92f84 45 bJx4a65c_grow_92f84_45 49 = true := by decide +kernel
theorem iJx4a65c_grow_92f84_45 (hr : z_run 4 bJx4a65c_grow_92f84_45 ls st = some (ls', st')) (g : z_J Z mJx4a65c_grow_92f84 R k n Q 49 ls' st' h) : z_J Z mJx4a65c_grow_92f84 R k n Q 45 ls st h := z_jr bJx4a65c_grow_92f84_45 bJx4a65c_grow_92f84_45_ok hr g
theorem dJx4a65c_grow_92f84_49 : decode cJx4a65c_grow_92f84 49 = .ok (.invokestatic 79, 3) := by decide +kernel
theorem iJx4a65c_grow_92f84_49 (hc : z_mchk R st k n = true) (g : z_J Z mJx4a65c_grow_92f84 R k n Q 52 ls (.int (if x < y then y else x) :: st) h) : z_J Z mJx4a65c_grow_92f84 R k n Q 49 ls (.int y :: .int x :: st) h := z_mmax dJx4a65c_grow_92f84_49 rfl gw352 gw317 gw32 gw_mmax hc g
theorem dJx4a65c_grow_92f84_52 : decode cJx4a65c_grow_92f84 52 = .ok (.anewarray 7, 3) := by decide +kernel
theorem iJx4a65c_grow_92f84_52 (r : Nat) (hi : i = nI N) (hN : N < 1000) (hR : k + 1 ≤ R.cells ∧ n + N ≤ R.slots) (g : ∀ q, z_J Z mJx4a65c_grow_92f84 R (k + 1) (n + N) Q 55 ls (.ref q :: st) (z_u h r (q, .inl (5, N, .inr (.inr (.inr (.inr (fun _ => none)))))))) : z_J Z mJx4a65c_grow_92f84 R k n Q 52 ls (.int i :: st) h := z_newq r (t := 5) dJx4a65c_grow_92f84_52 rfl (fun _ => rfl) (by left; rfl) gw353 hi hN hR g
def bJx4a65c_grow_92f84_55 : zB := [(55, .dup_x1, 56, nI 0)]
theorem bJx4a65c_grow_92f84_55_ok : z_ok cJx4a65c_grow_92f84 55 bJx4a65c_grow_92f84_55 56 = true := by decide +kernel
theorem iJx4a65c_grow_92f84_55 (hr : z_run 4 bJx4a65c_grow_92f84_55 ls st = some (ls', st')) (g : z_J Z mJx4a65c_grow_92f84 R k n Q 56 ls' st' h) : z_J Z mJx4a65c_grow_92f84 R k n Q 55 ls st h := z_jr bJx4a65c_grow_92f84_55 bJx4a65c_grow_92f84_55_ok hr g
theorem dJx4a65c_grow_92f84_56 : decode cJx4a65c_grow_92f84 56 = .ok (.putfield 9, 3) := by decide +kernel
theorem iJx4a65c_grow_92f84_56 (hh : h r = some (a, .inr (0, fs))) (hl : Nat.blt 1 fs.length = true) (g : z_J Z mJx4a65c_grow_92f84 R k n Q 59 ls st (z_u h r (a, .inr (0, fs.set 1 (.ref b))))) : z_J Z mJx4a65c_grow_92f84 R k n Q 56 ls ((.ref b) :: .ref a :: st) h := z_put dJx4a65c_grow_92f84_56 rfl fl_Jx4a65c_9 fw_Jx4a65c_1 rfl hh rfl rfl (by simpa [Nat.blt_eq] using hl) g
theorem iJx4a65c_grow_92f84_56N (hh : h r = some (a, .inr (0, fs))) (hl : Nat.blt 1 fs.length = true) (g : z_J Z mJx4a65c_grow_92f84 R k n Q 59 ls st (z_u h r (a, .inr (0, fs.set 1 (.null))))) : z_J Z mJx4a65c_grow_92f84 R k n Q 56 ls ((.null) :: .ref a :: st) h := z_put dJx4a65c_grow_92f84_56 rfl fl_Jx4a65c_9 fw_Jx4a65c_1 rfl hh rfl rfl (by simpa [Nat.blt_eq] using hl) g
theorem dJx4a65c_grow_92f84_59 : decode cJx4a65c_grow_92f84 59 = .ok (.areturn, 1) := by decide +kernel
theorem iJx4a65c_grow_92f84_59 (hk : k ≤ R.cells) (hs : n ≤ R.slots) (hq : Q (.inl (some (.ref a))) h) : z_J Z mJx4a65c_grow_92f84 R k n Q 59 ls [.ref a] h := z_aret (nm := "") dJx4a65c_grow_92f84_59 (Or.inr ⟨_, rfl⟩) hk hs hq
/-! Jx4a65c_grow_d5877 -/
def bJx4a65c_grow_d5877_0 : zB := [(0, .aload_n 0, 1, nI 0), (1, .aload_n 0, 2, nI 0)]
theorem bJx4a65c_grow_d5877_0_ok : z_ok cJx4a65c_grow_d5877 0 bJx4a65c_grow_d5877_0 2 = true := by decide +kernel
theorem iJx4a65c_grow_d5877_0 (hr : z_run 1 bJx4a65c_grow_d5877_0 ls st = some (ls', st')) (g : z_J Z mJx4a65c_grow_d5877 R k n Q 2 ls' st' h) : z_J Z mJx4a65c_grow_d5877 R k n Q 0 ls st h := z_jr bJx4a65c_grow_d5877_0 bJx4a65c_grow_d5877_0_ok hr g
theorem dJx4a65c_grow_d5877_2 : decode cJx4a65c_grow_d5877 2 = .ok (.getfield 48, 3) := by decide +kernel
theorem iJx4a65c_grow_d5877_2 (hh : h r = some (a, .inr (0, fs))) (hv : fs[2]? = some v) (g : z_J Z mJx4a65c_grow_d5877 R k n Q 5 ls (v :: st) h) : z_J Z mJx4a65c_grow_d5877 R k n Q 2 ls (.ref a :: st) h := z_get dJx4a65c_grow_d5877_2 rfl fl_Jx4a65c_48 hh hv g
def bJx4a65c_grow_d5877_5 : zB := [(5, .iconst 1, 6, nI 1), (6, .iadd, 7, nI 0)]
theorem bJx4a65c_grow_d5877_5_ok : z_ok cJx4a65c_grow_d5877 5 bJx4a65c_grow_d5877_5 7 = true := by decide +kernel
theorem iJx4a65c_grow_d5877_5 (hr : z_run 1 bJx4a65c_grow_d5877_5 ls st = some (ls', st')) (g : z_J Z mJx4a65c_grow_d5877 R k n Q 7 ls' st' h) : z_J Z mJx4a65c_grow_d5877 R k n Q 5 ls st h := z_jr bJx4a65c_grow_d5877_5 bJx4a65c_grow_d5877_5_ok hr g
theorem dJx4a65c_grow_d5877_7 : decode cJx4a65c_grow_d5877 7 = .ok (.invokevirtual 69, 3) := by decide +kernel
theorem iJx4a65c_grow_d5877_7 (ha : z_args 1 st [] = some (As, .ref b :: rest)) (hc : z_chk rest (.ref b :: As) 4 = true) (hh : h r = some (b, .inr (0, fs))) (hR : z_rm R R' 4 k n) (gc : z_J Z mJx4a65c_grow_92f84 R' 0 0 Q' 0 (.ref b :: As) [] h) (kr : ∀ (v : Option Value) (h' : zH), Q' (.inl v) h' → z_J Z mJx4a65c_grow_d5877 R (k + R'.cells) (n + R'.slots) Q 10 ls (v.toList ++ rest) h') (kx : ∀ (E : String) (h' : zH), Q' (.inr E) h' → z_JX Z mJx4a65c_grow_d5877 R (k + R'.cells) (n + R'.slots) Q 7 ls E h') : z_J Z mJx4a65c_grow_d5877 R k n Q 7 ls st h := z_callV (M' := mJx4a65c_grow_92f84) dJx4a65c_grow_d5877_7 rfl cs_Jx4a65c_69 rfl gw311 gwp3 ha hh (ci := 0) rfl hR (z_chk1 hc) (z_chk2 hc) (z_chk3 hc) gc kr kx
theorem dJx4a65c_grow_d5877_10 : decode cJx4a65c_grow_d5877 10 = .ok (.areturn, 1) := by decide +kernel
theorem iJx4a65c_grow_d5877_10 (hk : k ≤ R.cells) (hs : n ≤ R.slots) (hq : Q (.inl (some (.ref a))) h) : z_J Z mJx4a65c_grow_d5877 R k n Q 10 ls [.ref a] h := z_aret (nm := "") dJx4a65c_grow_d5877_10 (Or.inr ⟨_, rfl⟩) hk hs hq
/-! Jx4a65c_size_8abf5 -/
def bJx4a65c_size_8abf5_0 : zB := [(0, .aload_n 0, 1, nI 0)]
theorem bJx4a65c_size_8abf5_0_ok : z_ok cJx4a65c_size_8abf5 0 bJx4a65c_size_8abf5_0 1 = true := by decide +kernel
theorem iJx4a65c_size_8abf5_0 (hr : z_run 1 bJx4a65c_size_8abf5_0 ls st = some (ls', st')) (g : z_J Z mJx4a65c_size_8abf5 R k n Q 1 ls' st' h) : z_J Z mJx4a65c_size_8abf5 R k n Q 0 ls st h := z_jr bJx4a65c_size_8abf5_0 bJx4a65c_size_8abf5_0_ok hr g
theorem dJx4a65c_size_8abf5_1 : decode cJx4a65c_size_8abf5 1 = .ok (.getfield 48, 3) := by decide +kernel
theorem iJx4a65c_size_8abf5_1 (hh : h r = some (a, .inr (0, fs))) (hv : fs[2]? = some v) (g : z_J Z mJx4a65c_size_8abf5 R k n Q 4 ls (v :: st) h) : z_J Z mJx4a65c_size_8abf5 R k n Q 1 ls (.ref a :: st) h := z_get dJx4a65c_size_8abf5_1 rfl fl_Jx4a65c_48 hh hv g
theorem dJx4a65c_size_8abf5_4 : decode cJx4a65c_size_8abf5 4 = .ok (.ireturn, 1) := by decide +kernel
theorem iJx4a65c_size_8abf5_4 (hk : k ≤ R.cells) (hs : n ≤ R.slots) (hq : Q (.inl (some (.int x))) h) : z_J Z mJx4a65c_size_8abf5 R k n Q 4 ls [.int x] h := z_iret (ty := .int) dJx4a65c_size_8abf5_4 rfl rfl hk hs hq
/-! Jx4a65c_elementData_915e3 -/
def bJx4a65c_elementData_915e3_0 : zB := [(0, .aload_n 0, 1, nI 0)]
theorem bJx4a65c_elementData_915e3_0_ok : z_ok cJx4a65c_elementData_915e3 0 bJx4a65c_elementData_915e3_0 1 = true := by decide +kernel
theorem iJx4a65c_elementData_915e3_0 (hr : z_run 2 bJx4a65c_elementData_915e3_0 ls st = some (ls', st')) (g : z_J Z mJx4a65c_elementData_915e3 R k n Q 1 ls' st' h) : z_J Z mJx4a65c_elementData_915e3 R k n Q 0 ls st h := z_jr bJx4a65c_elementData_915e3_0 bJx4a65c_elementData_915e3_0_ok hr g
theorem dJx4a65c_elementData_915e3_1 : decode cJx4a65c_elementData_915e3 1 = .ok (.getfield 9, 3) := by decide +kernel
theorem iJx4a65c_elementData_915e3_1 (hh : h r = some (a, .inr (0, fs))) (hv : fs[1]? = some v) (g : z_J Z mJx4a65c_elementData_915e3 R k n Q 4 ls (v :: st) h) : z_J Z mJx4a65c_elementData_915e3 R k n Q 1 ls (.ref a :: st) h := z_get dJx4a65c_elementData_915e3_1 rfl fl_Jx4a65c_9 hh hv g
def bJx4a65c_elementData_915e3_4 : zB := [(4, .iload_n 1, 5, nI 0)]
theorem bJx4a65c_elementData_915e3_4_ok : z_ok cJx4a65c_elementData_915e3 4 bJx4a65c_elementData_915e3_4 5 = true := by decide +kernel
theorem iJx4a65c_elementData_915e3_4 (hr : z_run 2 bJx4a65c_elementData_915e3_4 ls st = some (ls', st')) (g : z_J Z mJx4a65c_elementData_915e3 R k n Q 5 ls' st' h) : z_J Z mJx4a65c_elementData_915e3 R k n Q 4 ls st h := z_jr bJx4a65c_elementData_915e3_4 bJx4a65c_elementData_915e3_4_ok hr g
theorem dJx4a65c_elementData_915e3_5 : decode cJx4a65c_elementData_915e3 5 = .ok (.aaload, 1) := by decide +kernel
theorem iJx4a65c_elementData_915e3_5 {f : Nat → Option Nat} (hh : h r = some (a, .inl (5, N, .inr (.inr (.inr (.inr f)))))) (hi : i = nI j) (hj : j < N) (hN : N < 2 ^ 31) (g : z_J Z mJx4a65c_elementData_915e3 R k n Q 6 ls (va_rf (f j) :: st) h) : z_J Z mJx4a65c_elementData_915e3 R k n Q 5 ls (.int i :: .ref a :: st) h := z_aald5 dJx4a65c_elementData_915e3_5 rfl hh hi hj hN g
theorem dJx4a65c_elementData_915e3_6 : decode cJx4a65c_elementData_915e3 6 = .ok (.areturn, 1) := by decide +kernel
theorem iJx4a65c_elementData_915e3_6 (hk : k ≤ R.cells) (hs : n ≤ R.slots) (hq : Q (.inl (some (.ref a))) h) : z_J Z mJx4a65c_elementData_915e3 R k n Q 6 ls [.ref a] h := z_aret dJx4a65c_elementData_915e3_6 (Or.inl rfl) hk hs hq
/-! Jx4a65c_get_915e3 -/
def bJx4a65c_get_915e3_0 : zB := [(0, .iload_n 1, 1, nI 0), (1, .aload_n 0, 2, nI 0)]
theorem bJx4a65c_get_915e3_0_ok : z_ok cJx4a65c_get_915e3 0 bJx4a65c_get_915e3_0 2 = true := by decide +kernel
theorem iJx4a65c_get_915e3_0 (hr : z_run 2 bJx4a65c_get_915e3_0 ls st = some (ls', st')) (g : z_J Z mJx4a65c_get_915e3 R k n Q 2 ls' st' h) : z_J Z mJx4a65c_get_915e3 R k n Q 0 ls st h := z_jr bJx4a65c_get_915e3_0 bJx4a65c_get_915e3_0_ok hr g
theorem dJx4a65c_get_915e3_2 : decode cJx4a65c_get_915e3 2 = .ok (.getfield 48, 3) := by decide +kernel
theorem iJx4a65c_get_915e3_2 (hh : h r = some (a, .inr (0, fs))) (hv : fs[2]? = some v) (g : z_J Z mJx4a65c_get_915e3 R k n Q 5 ls (v :: st) h) : z_J Z mJx4a65c_get_915e3 R k n Q 2 ls (.ref a :: st) h := z_get dJx4a65c_get_915e3_2 rfl fl_Jx4a65c_48 hh hv g
theorem dJx4a65c_get_915e3_5 : decode cJx4a65c_get_915e3 5 = .ok (.invokestatic 118, 3) := by decide +kernel
theorem iJx4a65c_get_915e3_5 (ha : z_args 2 st [] = some (As, rest)) (hc : z_chk rest As 2 = true) (hR : z_rm R R' 2 k n) (gc : z_J Z mJ15_checkIndex_7cf53 R' 0 0 Q' 0 As [] h) (kr : ∀ (v : Option Value) (h' : zH), Q' (.inl v) h' → z_J Z mJx4a65c_get_915e3 R (k + R'.cells) (n + R'.slots) Q 8 ls (v.toList ++ rest) h') (kx : ∀ (E : String) (h' : zH), Q' (.inr E) h' → z_JX Z mJx4a65c_get_915e3 R (k + R'.cells) (n + R'.slots) Q 5 ls E h') : z_J Z mJx4a65c_get_915e3 R k n Q 5 ls st h := z_callS (M' := mJ15_checkIndex_7cf53) dJx4a65c_get_915e3_5 rfl cs_Jx4a65c_118 gw387 ha hR (z_chk1 hc) (z_chk2 hc) (z_chk3 hc) gc kr kx
def bJx4a65c_get_915e3_8 : zB := [(8, .pop, 9, nI 0), (9, .aload_n 0, 10, nI 0), (10, .iload_n 1, 11, nI 0)]
theorem bJx4a65c_get_915e3_8_ok : z_ok cJx4a65c_get_915e3 8 bJx4a65c_get_915e3_8 11 = true := by decide +kernel
theorem iJx4a65c_get_915e3_8 (hr : z_run 2 bJx4a65c_get_915e3_8 ls st = some (ls', st')) (g : z_J Z mJx4a65c_get_915e3 R k n Q 11 ls' st' h) : z_J Z mJx4a65c_get_915e3 R k n Q 8 ls st h := z_jr bJx4a65c_get_915e3_8 bJx4a65c_get_915e3_8_ok hr g
theorem dJx4a65c_get_915e3_11 : decode cJx4a65c_get_915e3 11 = .ok (.invokevirtual 123, 3) := by decide +kernel
theorem iJx4a65c_get_915e3_11 (ha : z_args 1 st [] = some (As, .ref b :: rest)) (hc : z_chk rest (.ref b :: As) 2 = true) (hh : h r = some (b, .inr (0, fs))) (hR : z_rm R R' 2 k n) (gc : z_J Z mJx4a65c_elementData_915e3 R' 0 0 Q' 0 (.ref b :: As) [] h) (kr : ∀ (v : Option Value) (h' : zH), Q' (.inl v) h' → z_J Z mJx4a65c_get_915e3 R (k + R'.cells) (n + R'.slots) Q 14 ls (v.toList ++ rest) h') (kx : ∀ (E : String) (h' : zH), Q' (.inr E) h' → z_JX Z mJx4a65c_get_915e3 R (k + R'.cells) (n + R'.slots) Q 11 ls E h') : z_J Z mJx4a65c_get_915e3 R k n Q 11 ls st h := z_callV (M' := mJx4a65c_elementData_915e3) dJx4a65c_get_915e3_11 rfl cs_Jx4a65c_123 rfl gw393 gw394 ha hh (ci := 0) rfl hR (z_chk1 hc) (z_chk2 hc) (z_chk3 hc) gc kr kx
theorem dJx4a65c_get_915e3_14 : decode cJx4a65c_get_915e3 14 = .ok (.areturn, 1) := by decide +kernel
theorem iJx4a65c_get_915e3_14 (hk : k ≤ R.cells) (hs : n ≤ R.slots) (hq : Q (.inl (some (.ref a))) h) : z_J Z mJx4a65c_get_915e3 R k n Q 14 ls [.ref a] h := z_aret dJx4a65c_get_915e3_14 (Or.inl rfl) hk hs hq
/-! Jx4a65c_add_72be8 -/
def bJx4a65c_add_72be8_0 : zB := [(0, .iload_n 3, 1, nI 0), (1, .aload_n 2, 2, nI 0)]
theorem bJx4a65c_add_72be8_0_ok : z_ok cJx4a65c_add_72be8 0 bJx4a65c_add_72be8_0 2 = true := by decide +kernel
theorem iJx4a65c_add_72be8_0 (hr : z_run 4 bJx4a65c_add_72be8_0 ls st = some (ls', st')) (g : z_J Z mJx4a65c_add_72be8 R k n Q 2 ls' st' h) : z_J Z mJx4a65c_add_72be8 R k n Q 0 ls st h := z_jr bJx4a65c_add_72be8_0 bJx4a65c_add_72be8_0_ok hr g
theorem dJx4a65c_add_72be8_2 : decode cJx4a65c_add_72be8 2 = .ok (.arraylength, 1) := by decide +kernel
theorem iJx4a65c_add_72be8_2 {t : Nat} {x : vp_A} (hh : h r = some (a, .inl (t, x))) (ht : t < 6) (g : z_J Z mJx4a65c_add_72be8 R k n Q 3 ls (.int (nI x.1) :: st) h) : z_J Z mJx4a65c_add_72be8 R k n Q 2 ls (.ref a :: st) h := z_alen (ty := 0) dJx4a65c_add_72be8_2 rfl hh ht g
theorem iJx4a65c_add_72be8_2t (g : z_J Z mJx4a65c_add_72be8 R k n Q 3 ls (.int (nI 0) :: st) h) : z_J Z mJx4a65c_add_72be8 R k n Q 2 ls (.ref Z.2.2.2 :: st) h := z_tlen dJx4a65c_add_72be8_2 rfl g
theorem dJx4a65c_add_72be8_3 : decode cJx4a65c_add_72be8 3 = .ok (.if_icmp .ne 8, 3) := by decide +kernel
theorem iJx4a65c_add_72be8_3 (kt : ¬ x = y → z_J Z mJx4a65c_add_72be8 R k n Q 11 ls st h) (kf : x = y → z_J Z mJx4a65c_add_72be8 R k n Q 6 ls st h) : z_J Z mJx4a65c_add_72be8 R k n Q 3 ls (.int y :: .int x :: st) h := z_ic_ne dJx4a65c_add_72be8_3 (tgt := 11) (by decide) rfl kt kf
def bJx4a65c_add_72be8_6 : zB := [(6, .aload_n 0, 7, nI 0)]
theorem bJx4a65c_add_72be8_6_ok : z_ok cJx4a65c_add_72be8 6 bJx4a65c_add_72be8_6 7 = true := by decide +kernel
theorem iJx4a65c_add_72be8_6 (hr : z_run 4 bJx4a65c_add_72be8_6 ls st = some (ls', st')) (g : z_J Z mJx4a65c_add_72be8 R k n Q 7 ls' st' h) : z_J Z mJx4a65c_add_72be8 R k n Q 6 ls st h := z_jr bJx4a65c_add_72be8_6 bJx4a65c_add_72be8_6_ok hr g
theorem dJx4a65c_add_72be8_7 : decode cJx4a65c_add_72be8 7 = .ok (.invokevirtual 129, 3) := by decide +kernel
theorem iJx4a65c_add_72be8_7 (ha : z_args 0 st [] = some (As, .ref b :: rest)) (hc : z_chk rest (.ref b :: As) 1 = true) (hh : h r = some (b, .inr (0, fs))) (hR : z_rm R R' 1 k n) (gc : z_J Z mJx4a65c_grow_d5877 R' 0 0 Q' 0 (.ref b :: As) [] h) (kr : ∀ (v : Option Value) (h' : zH), Q' (.inl v) h' → z_J Z mJx4a65c_add_72be8 R (k + R'.cells) (n + R'.slots) Q 10 ls (v.toList ++ rest) h') (kx : ∀ (E : String) (h' : zH), Q' (.inr E) h' → z_JX Z mJx4a65c_add_72be8 R (k + R'.cells) (n + R'.slots) Q 7 ls E h') : z_J Z mJx4a65c_add_72be8 R k n Q 7 ls st h := z_callV (M' := mJx4a65c_grow_d5877) dJx4a65c_add_72be8_7 rfl cs_Jx4a65c_129 rfl gw307 gwp2 ha hh (ci := 0) rfl hR (z_chk1 hc) (z_chk2 hc) (z_chk3 hc) gc kr kx
def bJx4a65c_add_72be8_10 : zB := [(10, .astore_n 2, 11, nI 0)]
theorem bJx4a65c_add_72be8_10_ok : z_ok cJx4a65c_add_72be8 10 bJx4a65c_add_72be8_10 11 = true := by decide +kernel
theorem iJx4a65c_add_72be8_10 (hr : z_run 4 bJx4a65c_add_72be8_10 ls st = some (ls', st')) (g : z_J Z mJx4a65c_add_72be8 R k n Q 11 ls' st' h) : z_J Z mJx4a65c_add_72be8 R k n Q 10 ls st h := z_jr bJx4a65c_add_72be8_10 bJx4a65c_add_72be8_10_ok hr g
def bJx4a65c_add_72be8_11 : zB := [(11, .aload_n 2, 12, nI 0), (12, .iload_n 3, 13, nI 0), (13, .aload_n 1, 14, nI 0)]
theorem bJx4a65c_add_72be8_11_ok : z_ok cJx4a65c_add_72be8 11 bJx4a65c_add_72be8_11 14 = true := by decide +kernel
theorem iJx4a65c_add_72be8_11 (hr : z_run 4 bJx4a65c_add_72be8_11 ls st = some (ls', st')) (g : z_J Z mJx4a65c_add_72be8 R k n Q 14 ls' st' h) : z_J Z mJx4a65c_add_72be8 R k n Q 11 ls st h := z_jr bJx4a65c_add_72be8_11 bJx4a65c_add_72be8_11_ok hr g
theorem dJx4a65c_add_72be8_14 : decode cJx4a65c_add_72be8 14 = .ok (.aastore, 1) := by decide +kernel
theorem iJx4a65c_add_72be8_14 {f : Nat → Option Nat} {ci : Nat} {q : vw_C} (hh : h r = some (a, .inl (5, N, .inr (.inr (.inr (.inr f)))))) (hi : i = nI j) (hj : j < N) (hN : N < 2 ^ 31) (hv : h rv = some (b, .inr (ci, vs))) (hc : vwCl[ci]? = some q) (hca : (q.1, "java/lang/Object") ∈ z_casts) (g : z_J Z mJx4a65c_add_72be8 R k n Q 15 ls st (z_u h r (a, .inl (5, N, .inr (.inr (.inr (.inr (va_up f j (some b))))))))) : z_J Z mJx4a65c_add_72be8 R k n Q 14 ls (.ref b :: .int i :: .ref a :: st) h := z_aast5 dJx4a65c_add_72be8_14 rfl hh hi hj hN hv hc hca g
def bJx4a65c_add_72be8_15 : zB := [(15, .aload_n 0, 16, nI 0), (16, .iload_n 3, 17, nI 0), (17, .iconst 1, 18, nI 1), (18, .iadd, 19, nI 0)]
theorem bJx4a65c_add_72be8_15_ok : z_ok cJx4a65c_add_72be8 15 bJx4a65c_add_72be8_15 19 = true := by decide +kernel
theorem iJx4a65c_add_72be8_15 (hr : z_run 4 bJx4a65c_add_72be8_15 ls st = some (ls', st')) (g : z_J Z mJx4a65c_add_72be8 R k n Q 19 ls' st' h) : z_J Z mJx4a65c_add_72be8 R k n Q 15 ls st h := z_jr bJx4a65c_add_72be8_15 bJx4a65c_add_72be8_15_ok hr g
theorem dJx4a65c_add_72be8_19 : decode cJx4a65c_add_72be8 19 = .ok (.putfield 48, 3) := by decide +kernel
theorem iJx4a65c_add_72be8_19 (hh : h r = some (a, .inr (0, fs))) (hl : Nat.blt 2 fs.length = true) (g : z_J Z mJx4a65c_add_72be8 R k n Q 22 ls st (z_u h r (a, .inr (0, fs.set 2 (.int x))))) : z_J Z mJx4a65c_add_72be8 R k n Q 19 ls ((.int x) :: .ref a :: st) h := z_put dJx4a65c_add_72be8_19 rfl fl_Jx4a65c_48 fw_Jx4a65c_2 rfl hh rfl rfl (by simpa [Nat.blt_eq] using hl) g
theorem dJx4a65c_add_72be8_22 : decode cJx4a65c_add_72be8 22 = .ok (.return_, 1) := by decide +kernel
theorem iJx4a65c_add_72be8_22 (hk : k ≤ R.cells) (hs : n ≤ R.slots) (hq : Q (.inl none) h) : z_J Z mJx4a65c_add_72be8 R k n Q 22 ls [] h := z_vret dJx4a65c_add_72be8_22 rfl hk hs hq
/-! Jx4a65c_add_9ea2d -/
def bJx4a65c_add_9ea2d_0 : zB := [(0, .aload_n 0, 1, nI 0), (1, .dup, 2, nI 0)]
theorem bJx4a65c_add_9ea2d_0_ok : z_ok cJx4a65c_add_9ea2d 0 bJx4a65c_add_9ea2d_0 2 = true := by decide +kernel
theorem iJx4a65c_add_9ea2d_0 (hr : z_run 2 bJx4a65c_add_9ea2d_0 ls st = some (ls', st')) (g : z_J Z mJx4a65c_add_9ea2d R k n Q 2 ls' st' h) : z_J Z mJx4a65c_add_9ea2d R k n Q 0 ls st h := z_jr bJx4a65c_add_9ea2d_0 bJx4a65c_add_9ea2d_0_ok hr g
theorem dJx4a65c_add_9ea2d_2 : decode cJx4a65c_add_9ea2d 2 = .ok (.getfield 63, 3) := by decide +kernel
theorem iJx4a65c_add_9ea2d_2 (hh : h r = some (a, .inr (0, fs))) (hv : fs[0]? = some v) (g : z_J Z mJx4a65c_add_9ea2d R k n Q 5 ls (v :: st) h) : z_J Z mJx4a65c_add_9ea2d R k n Q 2 ls (.ref a :: st) h := z_get dJx4a65c_add_9ea2d_2 rfl fl_Jx4a65c_63 hh hv g
def bJx4a65c_add_9ea2d_5 : zB := [(5, .iconst 1, 6, nI 1), (6, .iadd, 7, nI 0)]
theorem bJx4a65c_add_9ea2d_5_ok : z_ok cJx4a65c_add_9ea2d 5 bJx4a65c_add_9ea2d_5 7 = true := by decide +kernel
theorem iJx4a65c_add_9ea2d_5 (hr : z_run 2 bJx4a65c_add_9ea2d_5 ls st = some (ls', st')) (g : z_J Z mJx4a65c_add_9ea2d R k n Q 7 ls' st' h) : z_J Z mJx4a65c_add_9ea2d R k n Q 5 ls st h := z_jr bJx4a65c_add_9ea2d_5 bJx4a65c_add_9ea2d_5_ok hr g
theorem dJx4a65c_add_9ea2d_7 : decode cJx4a65c_add_9ea2d 7 = .ok (.putfield 63, 3) := by decide +kernel
theorem iJx4a65c_add_9ea2d_7 (hh : h r = some (a, .inr (0, fs))) (hl : Nat.blt 0 fs.length = true) (g : z_J Z mJx4a65c_add_9ea2d R k n Q 10 ls st (z_u h r (a, .inr (0, fs.set 0 (.int x))))) : z_J Z mJx4a65c_add_9ea2d R k n Q 7 ls ((.int x) :: .ref a :: st) h := z_put dJx4a65c_add_9ea2d_7 rfl fl_Jx4a65c_63 fw_Jx4a65c_0 rfl hh rfl rfl (by simpa [Nat.blt_eq] using hl) g
def bJx4a65c_add_9ea2d_10 : zB := [(10, .aload_n 0, 11, nI 0), (11, .aload_n 1, 12, nI 0), (12, .aload_n 0, 13, nI 0)]
theorem bJx4a65c_add_9ea2d_10_ok : z_ok cJx4a65c_add_9ea2d 10 bJx4a65c_add_9ea2d_10 13 = true := by decide +kernel
theorem iJx4a65c_add_9ea2d_10 (hr : z_run 2 bJx4a65c_add_9ea2d_10 ls st = some (ls', st')) (g : z_J Z mJx4a65c_add_9ea2d R k n Q 13 ls' st' h) : z_J Z mJx4a65c_add_9ea2d R k n Q 10 ls st h := z_jr bJx4a65c_add_9ea2d_10 bJx4a65c_add_9ea2d_10_ok hr g
theorem dJx4a65c_add_9ea2d_13 : decode cJx4a65c_add_9ea2d 13 = .ok (.getfield 9, 3) := by decide +kernel
theorem iJx4a65c_add_9ea2d_13 (hh : h r = some (a, .inr (0, fs))) (hv : fs[1]? = some v) (g : z_J Z mJx4a65c_add_9ea2d R k n Q 16 ls (v :: st) h) : z_J Z mJx4a65c_add_9ea2d R k n Q 13 ls (.ref a :: st) h := z_get dJx4a65c_add_9ea2d_13 rfl fl_Jx4a65c_9 hh hv g
def bJx4a65c_add_9ea2d_16 : zB := [(16, .aload_n 0, 17, nI 0)]
theorem bJx4a65c_add_9ea2d_16_ok : z_ok cJx4a65c_add_9ea2d 16 bJx4a65c_add_9ea2d_16 17 = true := by decide +kernel
theorem iJx4a65c_add_9ea2d_16 (hr : z_run 2 bJx4a65c_add_9ea2d_16 ls st = some (ls', st')) (g : z_J Z mJx4a65c_add_9ea2d R k n Q 17 ls' st' h) : z_J Z mJx4a65c_add_9ea2d R k n Q 16 ls st h := z_jr bJx4a65c_add_9ea2d_16 bJx4a65c_add_9ea2d_16_ok hr g
theorem dJx4a65c_add_9ea2d_17 : decode cJx4a65c_add_9ea2d 17 = .ok (.getfield 48, 3) := by decide +kernel
theorem iJx4a65c_add_9ea2d_17 (hh : h r = some (a, .inr (0, fs))) (hv : fs[2]? = some v) (g : z_J Z mJx4a65c_add_9ea2d R k n Q 20 ls (v :: st) h) : z_J Z mJx4a65c_add_9ea2d R k n Q 17 ls (.ref a :: st) h := z_get dJx4a65c_add_9ea2d_17 rfl fl_Jx4a65c_48 hh hv g
theorem dJx4a65c_add_9ea2d_20 : decode cJx4a65c_add_9ea2d 20 = .ok (.invokevirtual 131, 3) := by decide +kernel
theorem iJx4a65c_add_9ea2d_20 (ha : z_args 3 st [] = some (As, .ref b :: rest)) (hc : z_chk rest (.ref b :: As) 4 = true) (hh : h r = some (b, .inr (0, fs))) (hR : z_rm R R' 4 k n) (gc : z_J Z mJx4a65c_add_72be8 R' 0 0 Q' 0 (.ref b :: As) [] h) (kr : ∀ (v : Option Value) (h' : zH), Q' (.inl v) h' → z_J Z mJx4a65c_add_9ea2d R (k + R'.cells) (n + R'.slots) Q 23 ls (v.toList ++ rest) h') (kx : ∀ (E : String) (h' : zH), Q' (.inr E) h' → z_JX Z mJx4a65c_add_9ea2d R (k + R'.cells) (n + R'.slots) Q 20 ls E h') : z_J Z mJx4a65c_add_9ea2d R k n Q 20 ls st h := z_callV (M' := mJx4a65c_add_72be8) dJx4a65c_add_9ea2d_20 rfl cs_Jx4a65c_131 rfl gw303 gwp1 ha hh (ci := 0) rfl hR (z_chk1 hc) (z_chk2 hc) (z_chk3 hc) gc kr kx
def bJx4a65c_add_9ea2d_23 : zB := [(23, .iconst 1, 24, nI 1)]
theorem bJx4a65c_add_9ea2d_23_ok : z_ok cJx4a65c_add_9ea2d 23 bJx4a65c_add_9ea2d_23 24 = true := by decide +kernel
theorem iJx4a65c_add_9ea2d_23 (hr : z_run 2 bJx4a65c_add_9ea2d_23 ls st = some (ls', st')) (g : z_J Z mJx4a65c_add_9ea2d R k n Q 24 ls' st' h) : z_J Z mJx4a65c_add_9ea2d R k n Q 23 ls st h := z_jr bJx4a65c_add_9ea2d_23 bJx4a65c_add_9ea2d_23_ok hr g
theorem dJx4a65c_add_9ea2d_24 : decode cJx4a65c_add_9ea2d 24 = .ok (.ireturn, 1) := by decide +kernel
theorem iJx4a65c_add_9ea2d_24 (hz : narrow .boolean (.int x) = .int x) (hk : k ≤ R.cells) (hs : n ≤ R.slots) (hq : Q (.inl (some (.int x))) h) : z_J Z mJx4a65c_add_9ea2d R k n Q 24 ls [.int x] h := z_iret (ty := .boolean) dJx4a65c_add_9ea2d_24 rfl hz hk hs hq
/-! J7_fill_53178 -/
def bJ7_fill_53178_0 : zB := [(0, .iconst 0, 1, nI 0), (1, .istore_n 2, 2, nI 0), (2, .aload_n 0, 3, nI 0)]
theorem bJ7_fill_53178_0_ok : z_ok cJ7_fill_53178 0 bJ7_fill_53178_0 3 = true := by decide +kernel
theorem iJ7_fill_53178_0 (hr : z_run 4 bJ7_fill_53178_0 ls st = some (ls', st')) (g : z_J Z mJ7_fill_53178 R k n Q 3 ls' st' h) : z_J Z mJ7_fill_53178 R k n Q 0 ls st h := z_jr bJ7_fill_53178_0 bJ7_fill_53178_0_ok hr g
theorem dJ7_fill_53178_3 : decode cJ7_fill_53178 3 = .ok (.arraylength, 1) := by decide +kernel
theorem iJ7_fill_53178_3 {t : Nat} {x : vp_A} (hh : h r = some (a, .inl (t, x))) (ht : t < 6) (g : z_J Z mJ7_fill_53178 R k n Q 4 ls (.int (nI x.1) :: st) h) : z_J Z mJ7_fill_53178 R k n Q 3 ls (.ref a :: st) h := z_alen (ty := 0) dJ7_fill_53178_3 rfl hh ht g
theorem iJ7_fill_53178_3t (g : z_J Z mJ7_fill_53178 R k n Q 4 ls (.int (nI 0) :: st) h) : z_J Z mJ7_fill_53178 R k n Q 3 ls (.ref Z.2.2.2 :: st) h := z_tlen dJ7_fill_53178_3 rfl g
def bJ7_fill_53178_4 : zB := [(4, .istore_n 3, 5, nI 0)]
theorem bJ7_fill_53178_4_ok : z_ok cJ7_fill_53178 4 bJ7_fill_53178_4 5 = true := by decide +kernel
theorem iJ7_fill_53178_4 (hr : z_run 4 bJ7_fill_53178_4 ls st = some (ls', st')) (g : z_J Z mJ7_fill_53178 R k n Q 5 ls' st' h) : z_J Z mJ7_fill_53178 R k n Q 4 ls st h := z_jr bJ7_fill_53178_4 bJ7_fill_53178_4_ok hr g
def bJ7_fill_53178_5 : zB := [(5, .iload_n 2, 6, nI 0), (6, .iload_n 3, 7, nI 0)]
theorem bJ7_fill_53178_5_ok : z_ok cJ7_fill_53178 5 bJ7_fill_53178_5 7 = true := by decide +kernel
theorem iJ7_fill_53178_5 (hr : z_run 4 bJ7_fill_53178_5 ls st = some (ls', st')) (g : z_J Z mJ7_fill_53178 R k n Q 7 ls' st' h) : z_J Z mJ7_fill_53178 R k n Q 5 ls st h := z_jr bJ7_fill_53178_5 bJ7_fill_53178_5_ok hr g
theorem dJ7_fill_53178_7 : decode cJ7_fill_53178 7 = .ok (.if_icmp .ge 13, 3) := by decide +kernel
theorem iJ7_fill_53178_7 (kt : y ≤ x → z_J Z mJ7_fill_53178 R k n Q 20 ls st h) (kf : ¬ y ≤ x → z_J Z mJ7_fill_53178 R k n Q 10 ls st h) : z_J Z mJ7_fill_53178 R k n Q 7 ls (.int y :: .int x :: st) h := z_ic_ge dJ7_fill_53178_7 (tgt := 20) (by decide) rfl kt kf
def bJ7_fill_53178_10 : zB := [(10, .aload_n 0, 11, nI 0), (11, .iload_n 2, 12, nI 0), (12, .iload_n 1, 13, nI 0)]
theorem bJ7_fill_53178_10_ok : z_ok cJ7_fill_53178 10 bJ7_fill_53178_10 13 = true := by decide +kernel
theorem iJ7_fill_53178_10 (hr : z_run 4 bJ7_fill_53178_10 ls st = some (ls', st')) (g : z_J Z mJ7_fill_53178 R k n Q 13 ls' st' h) : z_J Z mJ7_fill_53178 R k n Q 10 ls st h := z_jr bJ7_fill_53178_10 bJ7_fill_53178_10_ok hr g
theorem dJ7_fill_53178_13 : decode cJ7_fill_53178 13 = .ok (.iastore, 1) := by decide +kernel
theorem iJ7_fill_53178_13 {f : Nat → Int32} (hh : h r = some (a, .inl (0, N, .inl f))) (hi : i = nI j) (hj : j < N) (hN : N < 2 ^ 31) (g : z_J Z mJ7_fill_53178 R k n Q 14 ls st (z_u h r (a, .inl (0, N, .inl (upd f j x))))) : z_J Z mJ7_fill_53178 R k n Q 13 ls (.int x :: .int i :: .ref a :: st) h := z_iast dJ7_fill_53178_13 rfl hh hi hj hN g
def bJ7_fill_53178_14 : zB := [(14, .iinc 2 1, 17, nI 1), (17, .goto (-12), 5, nI 0)]
theorem bJ7_fill_53178_14_ok : z_ok cJ7_fill_53178 14 bJ7_fill_53178_14 5 = true := by decide +kernel
theorem iJ7_fill_53178_14 (hr : z_run 4 bJ7_fill_53178_14 ls st = some (ls', st')) (g : z_J Z mJ7_fill_53178 R k n Q 5 ls' st' h) : z_J Z mJ7_fill_53178 R k n Q 14 ls st h := z_jr bJ7_fill_53178_14 bJ7_fill_53178_14_ok hr g
theorem dJ7_fill_53178_20 : decode cJ7_fill_53178 20 = .ok (.return_, 1) := by decide +kernel
theorem iJ7_fill_53178_20 (hk : k ≤ R.cells) (hs : n ≤ R.slots) (hq : Q (.inl none) h) : z_J Z mJ7_fill_53178 R k n Q 20 ls [] h := z_vret dJ7_fill_53178_20 rfl hk hs hq
/-! J15_checkIndex_7cf53 -/
def bJ15_checkIndex_7cf53_0 : zB := [(0, .iload_n 0, 1, nI 0), (1, .iload_n 1, 2, nI 0), (2, .aconst_null, 3, nI 0)]
theorem bJ15_checkIndex_7cf53_0_ok : z_ok cJ15_checkIndex_7cf53 0 bJ15_checkIndex_7cf53_0 3 = true := by decide +kernel
theorem iJ15_checkIndex_7cf53_0 (hr : z_run 2 bJ15_checkIndex_7cf53_0 ls st = some (ls', st')) (g : z_J Z mJ15_checkIndex_7cf53 R k n Q 3 ls' st' h) : z_J Z mJ15_checkIndex_7cf53 R k n Q 0 ls st h := z_jr bJ15_checkIndex_7cf53_0 bJ15_checkIndex_7cf53_0_ok hr g
theorem dJ15_checkIndex_7cf53_3 : decode cJ15_checkIndex_7cf53 3 = .ok (.invokestatic 105, 3) := by decide +kernel
theorem iJ15_checkIndex_7cf53_3 (ha : z_args 3 st [] = some (As, rest)) (hc : z_chk rest As 3 = true) (hR : z_rm R R' 3 k n) (gc : z_J Z mJ3_checkIndex_8e157 R' 0 0 Q' 0 As [] h) (kr : ∀ (v : Option Value) (h' : zH), Q' (.inl v) h' → z_J Z mJ15_checkIndex_7cf53 R (k + R'.cells) (n + R'.slots) Q 6 ls (v.toList ++ rest) h') (kx : ∀ (E : String) (h' : zH), Q' (.inr E) h' → z_JX Z mJ15_checkIndex_7cf53 R (k + R'.cells) (n + R'.slots) Q 3 ls E h') : z_J Z mJ15_checkIndex_7cf53 R k n Q 3 ls st h := z_callS (M' := mJ3_checkIndex_8e157) dJ15_checkIndex_7cf53_3 rfl cs_J15_105 gw390 ha hR (z_chk1 hc) (z_chk2 hc) (z_chk3 hc) gc kr kx
theorem dJ15_checkIndex_7cf53_6 : decode cJ15_checkIndex_7cf53 6 = .ok (.ireturn, 1) := by decide +kernel
theorem iJ15_checkIndex_7cf53_6 (hk : k ≤ R.cells) (hs : n ≤ R.slots) (hq : Q (.inl (some (.int x))) h) : z_J Z mJ15_checkIndex_7cf53 R k n Q 6 ls [.int x] h := z_iret (ty := .int) dJ15_checkIndex_7cf53_6 rfl rfl hk hs hq
/-! J3_checkIndex_8e157 -/
def bJ3_checkIndex_8e157_0 : zB := [(0, .iload_n 0, 1, nI 0)]
theorem bJ3_checkIndex_8e157_0_ok : z_ok cJ3_checkIndex_8e157 0 bJ3_checkIndex_8e157_0 1 = true := by decide +kernel
theorem iJ3_checkIndex_8e157_0 (hr : z_run 3 bJ3_checkIndex_8e157_0 ls st = some (ls', st')) (g : z_J Z mJ3_checkIndex_8e157 R k n Q 1 ls' st' h) : z_J Z mJ3_checkIndex_8e157 R k n Q 0 ls st h := z_jr bJ3_checkIndex_8e157_0 bJ3_checkIndex_8e157_0_ok hr g
theorem dJ3_checkIndex_8e157_1 : decode cJ3_checkIndex_8e157 1 = .ok (.ifCond .lt 8, 3) := by decide +kernel
theorem iJ3_checkIndex_8e157_1 (kt : x < 0 → z_J Z mJ3_checkIndex_8e157 R k n Q 9 ls st h) (kf : ¬ x < 0 → z_J Z mJ3_checkIndex_8e157 R k n Q 4 ls st h) : z_J Z mJ3_checkIndex_8e157 R k n Q 1 ls (.int x :: st) h := z_if_lt dJ3_checkIndex_8e157_1 (tgt := 9) (by decide) rfl kt kf
def bJ3_checkIndex_8e157_4 : zB := [(4, .iload_n 0, 5, nI 0), (5, .iload_n 1, 6, nI 0)]
theorem bJ3_checkIndex_8e157_4_ok : z_ok cJ3_checkIndex_8e157 4 bJ3_checkIndex_8e157_4 6 = true := by decide +kernel
theorem iJ3_checkIndex_8e157_4 (hr : z_run 3 bJ3_checkIndex_8e157_4 ls st = some (ls', st')) (g : z_J Z mJ3_checkIndex_8e157 R k n Q 6 ls' st' h) : z_J Z mJ3_checkIndex_8e157 R k n Q 4 ls st h := z_jr bJ3_checkIndex_8e157_4 bJ3_checkIndex_8e157_4_ok hr g
theorem dJ3_checkIndex_8e157_6 : decode cJ3_checkIndex_8e157 6 = .ok (.if_icmp .lt 10, 3) := by decide +kernel
theorem iJ3_checkIndex_8e157_6 (kt : x < y → z_J Z mJ3_checkIndex_8e157 R k n Q 16 ls st h) (kf : ¬ x < y → z_J Z mJ3_checkIndex_8e157 R k n Q 9 ls st h) : z_J Z mJ3_checkIndex_8e157 R k n Q 6 ls (.int y :: .int x :: st) h := z_ic_lt dJ3_checkIndex_8e157_6 (tgt := 16) (by decide) rfl kt kf
def bJ3_checkIndex_8e157_9 : zB := [(9, .aload_n 2, 10, nI 0), (10, .iload_n 0, 11, nI 0), (11, .iload_n 1, 12, nI 0)]
theorem bJ3_checkIndex_8e157_9_ok : z_ok cJ3_checkIndex_8e157 9 bJ3_checkIndex_8e157_9 12 = true := by decide +kernel
theorem iJ3_checkIndex_8e157_9 (hr : z_run 3 bJ3_checkIndex_8e157_9 ls st = some (ls', st')) (g : z_J Z mJ3_checkIndex_8e157 R k n Q 12 ls' st' h) : z_J Z mJ3_checkIndex_8e157 R k n Q 9 ls st h := z_jr bJ3_checkIndex_8e157_9 bJ3_checkIndex_8e157_9_ok hr g
theorem dJ3_checkIndex_8e157_12 : decode cJ3_checkIndex_8e157 12 = .ok (.invokestatic 95, 3) := by decide +kernel
-- no word for "jdk/internal/util/Preconditions" 95 (.invokestatic 95)
theorem dJ3_checkIndex_8e157_15 : decode cJ3_checkIndex_8e157 15 = .ok (.athrow, 1) := by decide +kernel
-- no row for .athrow at 15
def bJ3_checkIndex_8e157_16 : zB := [(16, .iload_n 0, 17, nI 0)]
theorem bJ3_checkIndex_8e157_16_ok : z_ok cJ3_checkIndex_8e157 16 bJ3_checkIndex_8e157_16 17 = true := by decide +kernel
theorem iJ3_checkIndex_8e157_16 (hr : z_run 3 bJ3_checkIndex_8e157_16 ls st = some (ls', st')) (g : z_J Z mJ3_checkIndex_8e157 R k n Q 17 ls' st' h) : z_J Z mJ3_checkIndex_8e157 R k n Q 16 ls st h := z_jr bJ3_checkIndex_8e157_16 bJ3_checkIndex_8e157_16_ok hr g
theorem dJ3_checkIndex_8e157_17 : decode cJ3_checkIndex_8e157 17 = .ok (.ireturn, 1) := by decide +kernel
theorem iJ3_checkIndex_8e157_17 (hk : k ≤ R.cells) (hs : n ≤ R.slots) (hq : Q (.inl (some (.int x))) h) : z_J Z mJ3_checkIndex_8e157 R k n Q 17 ls [.int x] h := z_iret (ty := .int) dJ3_checkIndex_8e157_17 rfl rfl hk hs hq
end ZJ
