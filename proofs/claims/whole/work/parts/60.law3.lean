/-! ===== the law ===== -/
theorem z_swIn {M : zM} {Z : zZ} {R : Room} {k n : Nat} {Q : zO → zH → Prop} {pc : Nat} {ls st : List Value} {h : zH} {dflt lo hi : Int} {offs : Array Int} {len : Nat} {x : Int32} {off : Int} {tgt : Nat} (hd : decode M.2.1 pc = .ok (.tableswitch dflt lo hi offs, len)) (h1 : ¬ x.toInt < lo) (h2 : ¬ hi < x.toInt) (ho : offs[(x.toInt - lo).toNat]? = some off) (ht : (pc : Int) + off = (tgt : Int)) (g : z_J Z M R k n Q tgt ls st h) : z_J Z M R k n Q pc ls (.int x :: st) h := by
  intro D cA p l e s m args below meth c A H locs ws lsA X O L
  obtain ⟨hx, hb, -⟩ := id X
  exact lv_tableIn hx hb hd h1 h2 ho ht (g D cA p l e s m args below meth c A H locs ws lsA X O L)
theorem z_swOut {M : zM} {Z : zZ} {R : Room} {k n : Nat} {Q : zO → zH → Prop} {pc : Nat} {ls st : List Value} {h : zH} {dflt lo hi : Int} {offs : Array Int} {len : Nat} {x : Int32} {tgt : Nat} (hd : decode M.2.1 pc = .ok (.tableswitch dflt lo hi offs, len)) (h1 : x.toInt < lo ∨ hi < x.toInt) (ht : (pc : Int) + dflt = (tgt : Int)) (g : z_J Z M R k n Q tgt ls st h) : z_J Z M R k n Q pc ls (.int x :: st) h := by
  intro D cA p l e s m args below meth c A H locs ws lsA X O L
  obtain ⟨hx, hb, -⟩ := id X
  exact lv_tableOut hx hb hd h1 ht (g D cA p l e s m args below meth c A H locs ws lsA X O L)
section ZLaw3
variable {Z : zZ} {g : zH} {a1 a6 ao i : Nat} {R : Room} {k n : Nat} {Q : zO → zH → Prop}
theorem l_law0 (j : Nat) (hj : j < 32) (H : z_inv Z g a1 a6 ao) (hi : i + 6 ≤ Z.2.1) (hL : Z.2.1 < 100000) (hRL : z_RL R) (hk : k + 26 ≤ R.cells) (hn : n + 208 ≤ R.slots) (GO : ∀ (g' : zH) (st : List Value), z_inv Z g' a1 a6 ao → z_J Z mlaw R (k + 26) (n + 208) Q 1462 ([.ref Z.1, .ref a1, .ref a6, .ref ao, .int (nI i)] ++ st) [] g') : z_J Z mlaw R k n Q 40 [.ref Z.1, .ref a1, .ref a6, .ref ao, .int (nI i)] [.int (nI j)] g := by
  by_cases hd : 20 ≤ j
  · refine z_swOut (tgt := 1462) dlaw_40 (Or.inr (by rw [nI_toInt (by omega)]; omega)) (by decide) ?_
    exact z_J.widen (k + 26) (n + 208) (by omega) (by omega) (GO g [] H)
  rcases (show j = 0 ∨ j = 1 ∨ j = 2 ∨ j = 3 ∨ j = 4 ∨ j = 5 ∨ j = 6 ∨ j = 7 ∨ j = 8 ∨ j = 9 ∨ j = 10 ∨ j = 11 ∨ j = 12 ∨ j = 13 ∨ j = 14 ∨ j = 15 ∨ j = 16 ∨ j = 17 ∨ j = 18 ∨ j = 19 by omega) with rfl | rfl | rfl | rfl | rfl | rfl | rfl | rfl | rfl | rfl | rfl | rfl | rfl | rfl | rfl | rfl | rfl | rfl | rfl | rfl
  · exact z_swIn (off := 96) (tgt := 136) dlaw_40 (by decide) (by decide) (by decide) (by decide) (k_addRight H hi hL hRL hk hn GO)
  · exact z_swIn (off := 200) (tgt := 240) dlaw_40 (by decide) (by decide) (by decide) (by decide) (k_upgrade H hi hL hRL hk hn GO)
  · exact z_swIn (off := 268) (tgt := 308) dlaw_40 (by decide) (by decide) (by decide) (by decide) (k_setUnits H hi hL hRL hk hn GO)
  · exact z_swIn (off := 336) (tgt := 376) dlaw_40 (by decide) (by decide) (by decide) (by decide) (k_rights H hi hL hRL hk hn GO)
  · exact z_swIn (off := 349) (tgt := 389) dlaw_40 (by decide) (by decide) (by decide) (by decide) (k_addMachine H hi hL hRL hk hn GO)
  · exact z_swIn (off := 417) (tgt := 457) dlaw_40 (by decide) (by decide) (by decide) (by decide) (k_setCores H hi hL hRL hk hn GO)
  · exact z_swIn (off := 485) (tgt := 525) dlaw_40 (by decide) (by decide) (by decide) (by decide) (k_tellApart H hi hL hRL hk hn GO)
  · exact z_swIn (off := 569) (tgt := 609) dlaw_40 (by decide) (by decide) (by decide) (by decide) (k_setCoresOfUnit H hi hL hRL hk hn GO)
  · exact z_swIn (off := 637) (tgt := 677) dlaw_40 (by decide) (by decide) (by decide) (by decide) (k_machines H hi hL hRL hk hn GO)
  · exact z_swIn (off := 650) (tgt := 690) dlaw_40 (by decide) (by decide) (by decide) (by decide) (k_install H hi hL hRL hk hn GO)
  · exact z_swIn (off := 742) (tgt := 782) dlaw_40 (by decide) (by decide) (by decide) (by decide) (k_uninstall H hi hL hRL hk hn GO)
  · exact z_swIn (off := 822) (tgt := 862) dlaw_40 (by decide) (by decide) (by decide) (by decide) (k_runs H hi hL hRL hk hn GO)
  · exact z_swIn (off := 902) (tgt := 942) dlaw_40 (by decide) (by decide) (by decide) (by decide) (k_needs H hi hL hRL hk hn GO)
  · exact z_swIn (off := 958) (tgt := 998) dlaw_40 (by decide) (by decide) (by decide) (by decide) (k_need H hi hL hRL hk hn GO)
  · exact z_swIn (off := 1026) (tgt := 1066) dlaw_40 (by decide) (by decide) (by decide) (by decide) (k_demand H hi hL hRL hk hn GO)
  · exact z_swIn (off := 1094) (tgt := 1134) dlaw_40 (by decide) (by decide) (by decide) (by decide) (k_gets H hi hL hRL hk hn GO)
  · exact z_swIn (off := 1162) (tgt := 1202) dlaw_40 (by decide) (by decide) (by decide) (by decide) (k_lack H hi hL hRL hk hn GO)
  · exact z_swIn (off := 1218) (tgt := 1258) dlaw_40 (by decide) (by decide) (by decide) (by decide) (k_lackBySets H hi hL hRL hk hn GO)
  · exact z_swIn (off := 1274) (tgt := 1314) dlaw_40 (by decide) (by decide) (by decide) (by decide) (k_spare H hi hL hRL hk hn GO)
  · exact z_swIn (off := 1354) (tgt := 1394) dlaw_40 (by decide) (by decide) (by decide) (by decide) (k_most H hi hL hRL hk hn GO)
theorem l_law (hL : Z.2.1 < 100000) (hRL : z_RL R) (hq : ∀ g, Q (.inl (some (.int 1))) g) :
    ∀ t i k n (g : zH), Z.2.1 ≤ i + 6 * t → i ≤ 100000 → k + 26 * t ≤ R.cells → n + 208 * t ≤ R.slots → z_inv Z g a1 a6 ao → z_J Z mlaw R k n Q 23 [.ref Z.1, .ref a1, .ref a6, .ref ao, .int (nI i)] [] g := by
  intro t
  induction t with
  | zero =>
    intro i k n g ht hi6 hk hn H
    refine ilaw_23 rfl ?_
    refine ilaw_26 ?_
    refine ilaw_27 rfl ?_
    show z_J Z mlaw R k n Q 30 _ [.int (nI Z.2.1 - nI 6), .int (nI i)] g
    refine ilaw_30 (fun c => ?_) (fun c => ?_)
    · refine ilaw_1468 rfl ?_
      exact ilaw_1469 rfl (by omega) (by omega) (hq g)
    · rw [Int32.lt_iff_toInt_lt, pk_sub_toInt (by omega) (by omega), nI_toInt (by omega)] at c
      omega
  | succ t ih =>
    intro i k n g ht hi6 hk hn H
    refine ilaw_23 rfl ?_
    refine ilaw_26 ?_
    refine ilaw_27 rfl ?_
    show z_J Z mlaw R k n Q 30 _ [.int (nI Z.2.1 - nI 6), .int (nI i)] g
    refine ilaw_30 (fun c => ?_) (fun c => ?_)
    · refine ilaw_1468 rfl ?_
      exact ilaw_1469 rfl (by omega) (by omega) (hq g)
    · rw [Int32.lt_iff_toInt_lt, pk_sub_toInt (by omega) (by omega), nI_toInt (by omega)] at c
      have hi : i + 6 ≤ Z.2.1 := by omega
      refine ilaw_33 rfl ?_
      refine ilaw_36 (j := i) rfl (by omega) (by omega) ?_
      refine ilaw_37 rfl ?_
      show z_J Z mlaw R k n Q 40 [.ref Z.1, .ref a1, .ref a6, .ref ao, .int (nI i)] [.int (Z.2.2.1 i &&& nI 31)] g
      obtain ⟨j, hj, e⟩ := pk_andE (Z.2.2.1 i) (m := nI 31) 5 (by decide)
      rw [e]
      refine l_law0 j hj H hi hL hRL (by omega) (by omega) (fun g' st H' => ?_)
      refine ilaw_1462 rfl ?_
      refine z_J.take 5 ?_
      show z_J Z mlaw R (k + 26) (n + 208) Q 23 [.ref Z.1, .ref a1, .ref a6, .ref ao, .int (nI i + nI 6)] [] g'
      rw [nI_add]
      exact ih (i + 6) (k + 26) (n + 208) g' (by omega) (by omega) (by omega) (by omega) H'
theorem c_law (t : Nat) (hL : Z.2.1 < 100000) (hLt : Z.2.1 ≤ 6 * t) (hRL : z_RL R) (hk : 80 + 26 * t ≤ R.cells) (hn : 3811 + 208 * t ≤ R.slots) : z_J Z mlaw R 0 0 (fun o _ => o = .inl (some (.int 1))) 0 [.ref Z.1] [] (fun _ => none) := by
  obtain ⟨r1, r2⟩ := id hRL
  refine ilaw_0 1 ⟨by omega, by omega⟩ (fun q1 => ?_)
  refine ilaw_3 rfl ?_
  refine ilaw_4 (R' := (zR 4 76 58 799)) rfl rfl ⟨Nat.le_trans (by decide) r1, Nat.le_trans (by decide) r2, by show 0 + 1 + 58 ≤ R.cells; omega, by show 0 + 5 + 799 ≤ R.slots; omega⟩ (fun E h' q => by cases q.1) (c_X5_init z_u_s) (fun v h' w => ?_)
  obtain ⟨w1, w2, ad, w3, w4⟩ := w
  cases w1
  obtain ⟨g1, rfl⟩ : ∃ q, q = h' := ⟨_, rfl⟩
  refine ilaw_7 rfl ?_
  refine ilaw_8 600 ⟨by show 0 + 1 + 58 + 1 ≤ R.cells; omega, by show 0 + 5 + 799 + 23 ≤ R.slots; omega⟩ (fun q6 => ?_)
  refine ilaw_11 rfl ?_
  refine ilaw_12 (R' := (zR 1 16 19 2983)) rfl rfl ⟨Nat.le_trans (by decide) r1, Nat.le_trans (by decide) r2, by show 0 + 1 + 58 + 1 + 19 ≤ R.cells; omega, by show 0 + 5 + 799 + 23 + 2983 ≤ R.slots; omega⟩ (fun E h' q => by cases q.1) (c_X6_init z_u_s) (fun v h' y => ?_)
  obtain ⟨y1, y2, am, y3, y4⟩ := y
  cases y1
  obtain ⟨g2, rfl⟩ : ∃ q, q = h' := ⟨_, rfl⟩
  refine ilaw_15 rfl ?_
  refine ilaw_17 700 rfl (by decide) ⟨by show 0 + 1 + 58 + 1 + 19 + 1 ≤ R.cells; omega, by show 0 + 5 + 799 + 23 + 2983 + 1 ≤ R.slots; omega⟩ (fun q7 => ?_)
  refine ilaw_19 rfl ?_
  refine z_J.widen 80 3811 (by decide) (by decide) ?_
  refine l_law (a1 := q1) (a6 := q6) (ao := q7) hL hRL (fun g => rfl) t 0 80 3811 _ (by omega) (by omega) hk hn ⟨s_0, ad, am, 0, fun _ => 0, w3, y3, w4.hi (fun x hx => ?_), y4.kept (fun x a b => z_u_n (by omega)), z_u_s⟩
  rw [z_u_n (by omega), y2 x (by omega), z_u_n (by omega)]
end ZLaw3
