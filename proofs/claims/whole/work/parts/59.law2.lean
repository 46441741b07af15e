/-! ===== the law: one call of the script ===== -/
def z_inv (Z : zZ) (g : zH) (a1 a6 ao : Nat) : Prop := ∃ (σ : zSt) (ad am : Nat → Nat) (th : Nat) (f : Nat → Int64), ad 1 = a1 ∧ am 600 = a6 ∧ z_world Z g ad σ ∧ z_mod g am th σ ∧ g 700 = some (ao, .inl (2, 1, .inr (.inl f)))
theorem z_mod.kept {h h' : zH} {am : Nat → Nat} {th : Nat} {σ : zSt} (H : z_mod h am th σ) (hk : ∀ x, 600 ≤ x → x ≤ 619 → h' x = h x) : z_mod h' am th σ := by
  obtain ⟨HO, E, S, HM, HI, hS⟩ := H
  exact ⟨HO, E, S, HM.kept hk, HI, hS⟩
theorem z_mod.obj {h : zH} {am : Nat → Nat} {th : Nat} {σ : zSt} (H : z_mod h am th σ) : ∃ fs, h 600 = some (am 600, .inr (7, fs)) := by
  obtain ⟨HO, E, S, HM, HI, hS⟩ := H
  exact ⟨_, HM.1⟩
abbrev z_RL (R : Room) : Prop := 10 ≤ R.frames ∧ 183 ≤ R.locals
section ZLaw2
variable {Z : zZ} {g : zH} {a1 a6 ao i : Nat} {R : Room} {k n : Nat} {Q : zO → zH → Prop}
theorem k_addRight (H : z_inv Z g a1 a6 ao) (hi : i + 6 ≤ Z.2.1) (hL : Z.2.1 < 100000) (hRL : z_RL R) (hk : k + 26 ≤ R.cells) (hn : n + 208 ≤ R.slots) (GO : ∀ (g' : zH) (st : List Value), z_inv Z g' a1 a6 ao → z_J Z mlaw R (k + 26) (n + 208) Q 1462 ([.ref Z.1, .ref a1, .ref a6, .ref ao, .int (nI i)] ++ st) [] g') : z_J Z mlaw R k n Q 136 [.ref Z.1, .ref a1, .ref a6, .ref ao, .int (nI i)] [] g := by
  obtain ⟨σ, ad, am, th, f, rfl, rfl, H1, H2, H3⟩ := H
  obtain ⟨r1, r2⟩ := hRL
  have hb9 := fb_addRight σ (Z.2.2.1 (i + 1)) (Z.2.2.1 (i + 2)) (Z.2.2.1 (i + 3)) (Z.2.2.1 (i + 4)) (Z.2.2.1 (i + 5))
  have cL := c_L_addRight (Z := Z) (h := g) (p := (Z.2.2.1 (i + 1))) (v := (Z.2.2.1 (i + 2))) (u := (Z.2.2.1 (i + 3))) (f := (Z.2.2.1 (i + 4))) (l := (Z.2.2.1 (i + 5))) H1 H3
  have cM : ∀ h1, z_mod h1 am th σ → z_J Z mX6_addRight (zR 1 22 0 0) 0 0 (z_resm h1 am (f_addRight σ (Z.2.2.1 (i + 1)) (Z.2.2.1 (i + 2)) (Z.2.2.1 (i + 3)) (Z.2.2.1 (i + 4)) (Z.2.2.1 (i + 5)))) 0 [.ref (am 600), .int (Z.2.2.1 (i + 1)), .int (Z.2.2.1 (i + 2)), .int (Z.2.2.1 (i + 3)), .int (Z.2.2.1 (i + 4)), .int (Z.2.2.1 (i + 5))] [] h1 := fun h1 H => c_X6_addRight H
  generalize f_addRight σ (Z.2.2.1 (i + 1)) (Z.2.2.1 (i + 2)) (Z.2.2.1 (i + 3)) (Z.2.2.1 (i + 4)) (Z.2.2.1 (i + 5)) = a at hb9 cL cM
  refine ilaw_136 rfl ?_
  refine ilaw_142 (j := i + 1) (nI_add i 1) (by omega) (by omega) ?_
  refine ilaw_143 rfl ?_
  refine ilaw_148 (j := i + 2) (nI_add i 2) (by omega) (by omega) ?_
  refine ilaw_149 rfl ?_
  refine ilaw_154 (j := i + 3) (nI_add i 3) (by omega) (by omega) ?_
  refine ilaw_155 rfl ?_
  refine ilaw_160 (j := i + 4) (nI_add i 4) (by omega) (by omega) ?_
  refine ilaw_161 rfl ?_
  refine ilaw_166 (j := i + 5) (nI_add i 5) (by omega) (by omega) ?_
  refine ilaw_167 rfl ?_
  refine ilaw_168 (R' := zR 8 134 8 51) rfl rfl ⟨Nat.le_trans (by decide) r1, Nat.le_trans (by decide) r2, by show k + 8 ≤ R.cells; omega, by show n + 51 ≤ R.slots; omega⟩ cL (fun v h' w => ?_) (fun e h' w => by cases w.1)
  obtain ⟨w1, w2, ⟨ad', w3, w4⟩, f', w5, w6⟩ := w
  cases w1
  obtain ⟨g1, rfl⟩ : ∃ q, q = h' := ⟨_, rfl⟩
  have H2' := H2.kept (h' := g1) (fun x a b => w2 x (by omega) (by omega))
  obtain ⟨fs, ho⟩ := H2'.obj
  refine ilaw_171 rfl ?_
  refine ilaw_179 (j := i + 1) (nI_add i 1) (by omega) (by omega) ?_
  refine ilaw_180 rfl ?_
  refine ilaw_185 (j := i + 2) (nI_add i 2) (by omega) (by omega) ?_
  refine ilaw_186 rfl ?_
  refine ilaw_191 (j := i + 3) (nI_add i 3) (by omega) (by omega) ?_
  refine ilaw_192 rfl ?_
  refine ilaw_197 (j := i + 4) (nI_add i 4) (by omega) (by omega) ?_
  refine ilaw_198 rfl ?_
  refine ilaw_203 (j := i + 5) (nI_add i 5) (by omega) (by omega) ?_
  refine ilaw_204 (R' := zR 1 22 0 0) rfl rfl ho ⟨Nat.le_trans (by decide) r1, Nat.le_trans (by decide) r2, by show k + 8 + 0 ≤ R.cells; omega, by show n + 51 + 0 ≤ R.slots; omega⟩ (cM _ H2') (fun v h' y => ?_) (fun e h' y => by cases y.1)
  obtain ⟨y1, y2, y3⟩ := y
  cases y1
  obtain ⟨g2, rfl⟩ : ∃ q, q = h' := ⟨_, rfl⟩
  obtain ⟨fs2, ho2⟩ := y3.obj
  have INV : z_inv Z g2 (ad 1) (am 600) ao := ⟨_, ad', am, _, f', w3, rfl, w4.hi (fun x hx => y2 x (by omega)), y3, (y2 700 (by omega)).trans w5⟩
  refine ilaw_207 rfl ?_
  refine ilaw_210 (R' := zR 0 0 0 0) rfl rfl ho2 ⟨Nat.le_trans (by decide) r1, Nat.le_trans (by decide) r2, by show k + 8 + 0 + 0 ≤ R.cells; omega, by show n + 51 + 0 + 0 ≤ R.slots; omega⟩ (c_X6_thrown y3) (z_qr ?_) z_qx
  refine ilaw_213 rfl ?_
  refine ilaw_215 (fun c => ?_) (fun c => absurd rfl c)
  refine ilaw_220 rfl ?_
  refine ilaw_222 (fun c => ?_) (fun c => ?_)
  · refine ilaw_237 rfl ?_
    refine z_J.widen (k + 26) (n + 208) (by show k + 8 + 0 + 0 ≤ _; omega) (by show n + 51 + 0 + 0 ≤ _; omega) ?_
    exact GO g2 [_, _] INV
  · have a0 := n_e0 c (by omega)
    refine ilaw_225 rfl ?_
    refine ilaw_227 (r := 700) (j := 0) (N := 1) ((y2 700 (by omega)).trans w5) rfl (by omega) (by omega) ?_
    refine ilaw_228 rfl ?_
    refine ilaw_231 ?_
    refine ilaw_232 (fun c => ?_) (fun c => absurd ((lg_cmp_eq _ _).mpr (w6 a0)) c)
    refine ilaw_237 rfl ?_
    refine z_J.widen (k + 26) (n + 208) (by show k + 8 + 0 + 0 ≤ _; omega) (by show n + 51 + 0 + 0 ≤ _; omega) ?_
    exact GO g2 [_, _] INV
theorem k_upgrade (H : z_inv Z g a1 a6 ao) (hi : i + 6 ≤ Z.2.1) (hL : Z.2.1 < 100000) (hRL : z_RL R) (hk : k + 26 ≤ R.cells) (hn : n + 208 ≤ R.slots) (GO : ∀ (g' : zH) (st : List Value), z_inv Z g' a1 a6 ao → z_J Z mlaw R (k + 26) (n + 208) Q 1462 ([.ref Z.1, .ref a1, .ref a6, .ref ao, .int (nI i)] ++ st) [] g') : z_J Z mlaw R k n Q 240 [.ref Z.1, .ref a1, .ref a6, .ref ao, .int (nI i)] [] g := by
  obtain ⟨σ, ad, am, th, f, rfl, rfl, H1, H2, H3⟩ := H
  obtain ⟨r1, r2⟩ := hRL
  have hb9 := fb_upgrade σ (Z.2.2.1 (i + 1)) (Z.2.2.1 (i + 2))
  have cL := c_L_upgrade (Z := Z) (h := g) (r := (Z.2.2.1 (i + 1))) (v := (Z.2.2.1 (i + 2))) H1 H3
  have cM : ∀ h1, z_mod h1 am th σ → z_J Z mX6_upgrade (zR 2 43 0 0) 0 0 (z_resm h1 am (f_upgrade σ (Z.2.2.1 (i + 1)) (Z.2.2.1 (i + 2)))) 0 [.ref (am 600), .int (Z.2.2.1 (i + 1)), .int (Z.2.2.1 (i + 2))] [] h1 := fun h1 H => c_X6_upgrade H
  generalize f_upgrade σ (Z.2.2.1 (i + 1)) (Z.2.2.1 (i + 2)) = a at hb9 cL cM
  refine ilaw_240 rfl ?_
  refine ilaw_246 (j := i + 1) (nI_add i 1) (by omega) (by omega) ?_
  refine ilaw_247 rfl ?_
  refine ilaw_252 (j := i + 2) (nI_add i 2) (by omega) (by omega) ?_
  refine ilaw_253 rfl ?_
  refine ilaw_254 (R' := zR 8 128 3 18) rfl rfl ⟨Nat.le_trans (by decide) r1, Nat.le_trans (by decide) r2, by show k + 3 ≤ R.cells; omega, by show n + 18 ≤ R.slots; omega⟩ cL (fun v h' w => ?_) (fun e h' w => by cases w.1)
  obtain ⟨w1, w2, ⟨ad', w3, w4⟩, f', w5, w6⟩ := w
  cases w1
  obtain ⟨g1, rfl⟩ : ∃ q, q = h' := ⟨_, rfl⟩
  have H2' := H2.kept (h' := g1) (fun x a b => w2 x (by omega) (by omega))
  obtain ⟨fs, ho⟩ := H2'.obj
  refine ilaw_257 rfl ?_
  refine ilaw_265 (j := i + 1) (nI_add i 1) (by omega) (by omega) ?_
  refine ilaw_266 rfl ?_
  refine ilaw_271 (j := i + 2) (nI_add i 2) (by omega) (by omega) ?_
  refine ilaw_272 (R' := zR 2 43 0 0) rfl rfl ho ⟨Nat.le_trans (by decide) r1, Nat.le_trans (by decide) r2, by show k + 3 + 0 ≤ R.cells; omega, by show n + 18 + 0 ≤ R.slots; omega⟩ (cM _ H2') (fun v h' y => ?_) (fun e h' y => by cases y.1)
  obtain ⟨y1, y2, y3⟩ := y
  cases y1
  obtain ⟨g2, rfl⟩ : ∃ q, q = h' := ⟨_, rfl⟩
  obtain ⟨fs2, ho2⟩ := y3.obj
  have INV : z_inv Z g2 (ad 1) (am 600) ao := ⟨_, ad', am, _, f', w3, rfl, w4.hi (fun x hx => y2 x (by omega)), y3, (y2 700 (by omega)).trans w5⟩
  refine ilaw_275 rfl ?_
  refine ilaw_278 (R' := zR 0 0 0 0) rfl rfl ho2 ⟨Nat.le_trans (by decide) r1, Nat.le_trans (by decide) r2, by show k + 3 + 0 + 0 ≤ R.cells; omega, by show n + 18 + 0 + 0 ≤ R.slots; omega⟩ (c_X6_thrown y3) (z_qr ?_) z_qx
  refine ilaw_281 rfl ?_
  refine ilaw_283 (fun c => ?_) (fun c => absurd rfl c)
  refine ilaw_288 rfl ?_
  refine ilaw_290 (fun c => ?_) (fun c => ?_)
  · refine ilaw_305 rfl ?_
    refine z_J.widen (k + 26) (n + 208) (by show k + 3 + 0 + 0 ≤ _; omega) (by show n + 18 + 0 + 0 ≤ _; omega) ?_
    exact GO g2 [_, _] INV
  · have a0 := n_e0 c (by omega)
    refine ilaw_293 rfl ?_
    refine ilaw_295 (r := 700) (j := 0) (N := 1) ((y2 700 (by omega)).trans w5) rfl (by omega) (by omega) ?_
    refine ilaw_296 rfl ?_
    refine ilaw_299 ?_
    refine ilaw_300 (fun c => ?_) (fun c => absurd ((lg_cmp_eq _ _).mpr (w6 a0)) c)
    refine ilaw_305 rfl ?_
    refine z_J.widen (k + 26) (n + 208) (by show k + 3 + 0 + 0 ≤ _; omega) (by show n + 18 + 0 + 0 ≤ _; omega) ?_
    exact GO g2 [_, _] INV
theorem k_setUnits (H : z_inv Z g a1 a6 ao) (hi : i + 6 ≤ Z.2.1) (hL : Z.2.1 < 100000) (hRL : z_RL R) (hk : k + 26 ≤ R.cells) (hn : n + 208 ≤ R.slots) (GO : ∀ (g' : zH) (st : List Value), z_inv Z g' a1 a6 ao → z_J Z mlaw R (k + 26) (n + 208) Q 1462 ([.ref Z.1, .ref a1, .ref a6, .ref ao, .int (nI i)] ++ st) [] g') : z_J Z mlaw R k n Q 308 [.ref Z.1, .ref a1, .ref a6, .ref ao, .int (nI i)] [] g := by
  obtain ⟨σ, ad, am, th, f, rfl, rfl, H1, H2, H3⟩ := H
  obtain ⟨r1, r2⟩ := hRL
  have hb9 := fb_setUnits σ (Z.2.2.1 (i + 1)) (Z.2.2.1 (i + 2))
  have cL := c_L_setUnits (Z := Z) (h := g) (r := (Z.2.2.1 (i + 1))) (v := (Z.2.2.1 (i + 2))) H1 H3
  have cM : ∀ h1, z_mod h1 am th σ → z_J Z mX6_setUnits (zR 2 43 0 0) 0 0 (z_resm h1 am (f_setUnits σ (Z.2.2.1 (i + 1)) (Z.2.2.1 (i + 2)))) 0 [.ref (am 600), .int (Z.2.2.1 (i + 1)), .int (Z.2.2.1 (i + 2))] [] h1 := fun h1 H => c_X6_setUnits H
  generalize f_setUnits σ (Z.2.2.1 (i + 1)) (Z.2.2.1 (i + 2)) = a at hb9 cL cM
  refine ilaw_308 rfl ?_
  refine ilaw_314 (j := i + 1) (nI_add i 1) (by omega) (by omega) ?_
  refine ilaw_315 rfl ?_
  refine ilaw_320 (j := i + 2) (nI_add i 2) (by omega) (by omega) ?_
  refine ilaw_321 rfl ?_
  refine ilaw_322 (R' := zR 8 128 2 12) rfl rfl ⟨Nat.le_trans (by decide) r1, Nat.le_trans (by decide) r2, by show k + 2 ≤ R.cells; omega, by show n + 12 ≤ R.slots; omega⟩ cL (fun v h' w => ?_) (fun e h' w => by cases w.1)
  obtain ⟨w1, w2, ⟨ad', w3, w4⟩, f', w5, w6⟩ := w
  cases w1
  obtain ⟨g1, rfl⟩ : ∃ q, q = h' := ⟨_, rfl⟩
  have H2' := H2.kept (h' := g1) (fun x a b => w2 x (by omega) (by omega))
  obtain ⟨fs, ho⟩ := H2'.obj
  refine ilaw_325 rfl ?_
  refine ilaw_333 (j := i + 1) (nI_add i 1) (by omega) (by omega) ?_
  refine ilaw_334 rfl ?_
  refine ilaw_339 (j := i + 2) (nI_add i 2) (by omega) (by omega) ?_
  refine ilaw_340 (R' := zR 2 43 0 0) rfl rfl ho ⟨Nat.le_trans (by decide) r1, Nat.le_trans (by decide) r2, by show k + 2 + 0 ≤ R.cells; omega, by show n + 12 + 0 ≤ R.slots; omega⟩ (cM _ H2') (fun v h' y => ?_) (fun e h' y => by cases y.1)
  obtain ⟨y1, y2, y3⟩ := y
  cases y1
  obtain ⟨g2, rfl⟩ : ∃ q, q = h' := ⟨_, rfl⟩
  obtain ⟨fs2, ho2⟩ := y3.obj
  have INV : z_inv Z g2 (ad 1) (am 600) ao := ⟨_, ad', am, _, f', w3, rfl, w4.hi (fun x hx => y2 x (by omega)), y3, (y2 700 (by omega)).trans w5⟩
  refine ilaw_343 rfl ?_
  refine ilaw_346 (R' := zR 0 0 0 0) rfl rfl ho2 ⟨Nat.le_trans (by decide) r1, Nat.le_trans (by decide) r2, by show k + 2 + 0 + 0 ≤ R.cells; omega, by show n + 12 + 0 + 0 ≤ R.slots; omega⟩ (c_X6_thrown y3) (z_qr ?_) z_qx
  refine ilaw_349 rfl ?_
  refine ilaw_351 (fun c => ?_) (fun c => absurd rfl c)
  refine ilaw_356 rfl ?_
  refine ilaw_358 (fun c => ?_) (fun c => ?_)
  · refine ilaw_373 rfl ?_
    refine z_J.widen (k + 26) (n + 208) (by show k + 2 + 0 + 0 ≤ _; omega) (by show n + 12 + 0 + 0 ≤ _; omega) ?_
    exact GO g2 [_, _] INV
  · have a0 := n_e0 c (by omega)
    refine ilaw_361 rfl ?_
    refine ilaw_363 (r := 700) (j := 0) (N := 1) ((y2 700 (by omega)).trans w5) rfl (by omega) (by omega) ?_
    refine ilaw_364 rfl ?_
    refine ilaw_367 ?_
    refine ilaw_368 (fun c => ?_) (fun c => absurd ((lg_cmp_eq _ _).mpr (w6 a0)) c)
    refine ilaw_373 rfl ?_
    refine z_J.widen (k + 26) (n + 208) (by show k + 2 + 0 + 0 ≤ _; omega) (by show n + 12 + 0 + 0 ≤ _; omega) ?_
    exact GO g2 [_, _] INV
theorem k_rights (H : z_inv Z g a1 a6 ao) (hi : i + 6 ≤ Z.2.1) (hL : Z.2.1 < 100000) (hRL : z_RL R) (hk : k + 26 ≤ R.cells) (hn : n + 208 ≤ R.slots) (GO : ∀ (g' : zH) (st : List Value), z_inv Z g' a1 a6 ao → z_J Z mlaw R (k + 26) (n + 208) Q 1462 ([.ref Z.1, .ref a1, .ref a6, .ref ao, .int (nI i)] ++ st) [] g') : z_J Z mlaw R k n Q 376 [.ref Z.1, .ref a1, .ref a6, .ref ao, .int (nI i)] [] g := by
  obtain ⟨σ, ad, am, th, f, rfl, rfl, H1, H2, H3⟩ := H
  obtain ⟨r1, r2⟩ := hRL
  refine ilaw_376 rfl ?_
  refine ilaw_377 (R' := zR 1 20 0 0) rfl rfl H1.1.2.1 ⟨Nat.le_trans (by decide) r1, Nat.le_trans (by decide) r2, by show k + 0 ≤ R.cells; omega, by show n + 0 ≤ R.slots; omega⟩ (c_X5_rights H1) (fun v h' w => ?_) (fun e h' w => absurd rfl (z_o_inr w.1).1)
  obtain ⟨w1, w2, ad', w3, w4⟩ := w
  obtain ⟨-, rfl⟩ := z_o_inl w1
  obtain ⟨g1, rfl⟩ : ∃ q, q = h' := ⟨_, rfl⟩
  have H2' := H2.kept (h' := g1) (fun x a b => w2 x (by omega))
  obtain ⟨fs, ho⟩ := H2'.obj
  refine ilaw_380 rfl ?_
  refine ilaw_381 (R' := zR 0 0 0 0) rfl rfl ho ⟨Nat.le_trans (by decide) r1, Nat.le_trans (by decide) r2, by show k + 0 + 0 ≤ R.cells; omega, by show n + 0 + 0 ≤ R.slots; omega⟩ (c_X6_rights H2') (fun v h' y => ?_) (fun e h' y => by cases y.1)
  obtain ⟨y1, y2, y3⟩ := y
  cases y1
  obtain ⟨g2, rfl⟩ : ∃ q, q = h' := ⟨_, rfl⟩
  refine ilaw_384 (fun c => ?_) (fun c => absurd rfl c)
  refine z_J.widen (k + 26) (n + 208) (by show k + 0 + 0 ≤ _; omega) (by show n + 0 + 0 ≤ _; omega) ?_
  exact GO g2 [] ⟨_, ad', am, _, f, w3, rfl, w4.hi (fun x hx => y2 x (by omega)), y3, (y2 700 (by omega)).trans ((w2 700 (by omega)).trans H3)⟩
theorem k_addMachine (H : z_inv Z g a1 a6 ao) (hi : i + 6 ≤ Z.2.1) (hL : Z.2.1 < 100000) (hRL : z_RL R) (hk : k + 26 ≤ R.cells) (hn : n + 208 ≤ R.slots) (GO : ∀ (g' : zH) (st : List Value), z_inv Z g' a1 a6 ao → z_J Z mlaw R (k + 26) (n + 208) Q 1462 ([.ref Z.1, .ref a1, .ref a6, .ref ao, .int (nI i)] ++ st) [] g') : z_J Z mlaw R k n Q 389 [.ref Z.1, .ref a1, .ref a6, .ref ao, .int (nI i)] [] g := by
  obtain ⟨σ, ad, am, th, f, rfl, rfl, H1, H2, H3⟩ := H
  obtain ⟨r1, r2⟩ := hRL
  have hb9 := fb_addMachine σ (Z.2.2.1 (i + 1)) (Z.2.2.1 (i + 2))
  have cL := c_L_addMachine (Z := Z) (h := g) (c := (Z.2.2.1 (i + 1))) (t := (Z.2.2.1 (i + 2))) H1 H3
  have cM : ∀ h1, z_mod h1 am th σ → z_J Z mX6_addMachine (zR 2 43 0 0) 0 0 (z_resm h1 am (f_addMachine σ (Z.2.2.1 (i + 1)) (Z.2.2.1 (i + 2)))) 0 [.ref (am 600), .int (Z.2.2.1 (i + 1)), .int (Z.2.2.1 (i + 2))] [] h1 := fun h1 H => c_X6_addMachine H
  generalize f_addMachine σ (Z.2.2.1 (i + 1)) (Z.2.2.1 (i + 2)) = a at hb9 cL cM
  refine ilaw_389 rfl ?_
  refine ilaw_395 (j := i + 1) (nI_add i 1) (by omega) (by omega) ?_
  refine ilaw_396 rfl ?_
  refine ilaw_401 (j := i + 2) (nI_add i 2) (by omega) (by omega) ?_
  refine ilaw_402 rfl ?_
  refine ilaw_403 (R' := zR 8 132 26 208) rfl rfl ⟨Nat.le_trans (by decide) r1, Nat.le_trans (by decide) r2, by show k + 26 ≤ R.cells; omega, by show n + 208 ≤ R.slots; omega⟩ cL (fun v h' w => ?_) (fun e h' w => by cases w.1)
  obtain ⟨w1, w2, ⟨ad', w3, w4⟩, f', w5, w6⟩ := w
  cases w1
  obtain ⟨g1, rfl⟩ : ∃ q, q = h' := ⟨_, rfl⟩
  have H2' := H2.kept (h' := g1) (fun x a b => w2 x (by omega) (by omega))
  obtain ⟨fs, ho⟩ := H2'.obj
  refine ilaw_406 rfl ?_
  refine ilaw_414 (j := i + 1) (nI_add i 1) (by omega) (by omega) ?_
  refine ilaw_415 rfl ?_
  refine ilaw_420 (j := i + 2) (nI_add i 2) (by omega) (by omega) ?_
  refine ilaw_421 (R' := zR 2 43 0 0) rfl rfl ho ⟨Nat.le_trans (by decide) r1, Nat.le_trans (by decide) r2, by show k + 26 + 0 ≤ R.cells; omega, by show n + 208 + 0 ≤ R.slots; omega⟩ (cM _ H2') (fun v h' y => ?_) (fun e h' y => by cases y.1)
  obtain ⟨y1, y2, y3⟩ := y
  cases y1
  obtain ⟨g2, rfl⟩ : ∃ q, q = h' := ⟨_, rfl⟩
  obtain ⟨fs2, ho2⟩ := y3.obj
  have INV : z_inv Z g2 (ad 1) (am 600) ao := ⟨_, ad', am, _, f', w3, rfl, w4.hi (fun x hx => y2 x (by omega)), y3, (y2 700 (by omega)).trans w5⟩
  refine ilaw_424 rfl ?_
  refine ilaw_427 (R' := zR 0 0 0 0) rfl rfl ho2 ⟨Nat.le_trans (by decide) r1, Nat.le_trans (by decide) r2, by show k + 26 + 0 + 0 ≤ R.cells; omega, by show n + 208 + 0 + 0 ≤ R.slots; omega⟩ (c_X6_thrown y3) (z_qr ?_) z_qx
  refine ilaw_430 rfl ?_
  refine ilaw_432 (fun c => ?_) (fun c => absurd rfl c)
  refine ilaw_437 rfl ?_
  refine ilaw_439 (fun c => ?_) (fun c => ?_)
  · refine ilaw_454 rfl ?_
    refine z_J.widen (k + 26) (n + 208) (by show k + 26 + 0 + 0 ≤ _; omega) (by show n + 208 + 0 + 0 ≤ _; omega) ?_
    exact GO g2 [_, _] INV
  · have a0 := n_e0 c (by omega)
    refine ilaw_442 rfl ?_
    refine ilaw_444 (r := 700) (j := 0) (N := 1) ((y2 700 (by omega)).trans w5) rfl (by omega) (by omega) ?_
    refine ilaw_445 rfl ?_
    refine ilaw_448 ?_
    refine ilaw_449 (fun c => ?_) (fun c => absurd ((lg_cmp_eq _ _).mpr (w6 a0)) c)
    refine ilaw_454 rfl ?_
    refine z_J.widen (k + 26) (n + 208) (by show k + 26 + 0 + 0 ≤ _; omega) (by show n + 208 + 0 + 0 ≤ _; omega) ?_
    exact GO g2 [_, _] INV
theorem k_setCores (H : z_inv Z g a1 a6 ao) (hi : i + 6 ≤ Z.2.1) (hL : Z.2.1 < 100000) (hRL : z_RL R) (hk : k + 26 ≤ R.cells) (hn : n + 208 ≤ R.slots) (GO : ∀ (g' : zH) (st : List Value), z_inv Z g' a1 a6 ao → z_J Z mlaw R (k + 26) (n + 208) Q 1462 ([.ref Z.1, .ref a1, .ref a6, .ref ao, .int (nI i)] ++ st) [] g') : z_J Z mlaw R k n Q 457 [.ref Z.1, .ref a1, .ref a6, .ref ao, .int (nI i)] [] g := by
  obtain ⟨σ, ad, am, th, f, rfl, rfl, H1, H2, H3⟩ := H
  obtain ⟨r1, r2⟩ := hRL
  have hb9 := fb_setCores σ (Z.2.2.1 (i + 1)) (Z.2.2.1 (i + 2))
  have cL := c_L_setCores (Z := Z) (h := g) (m := (Z.2.2.1 (i + 1))) (v := (Z.2.2.1 (i + 2))) H1 H3
  have cM : ∀ h1, z_mod h1 am th σ → z_J Z mX6_setCores (zR 2 43 0 0) 0 0 (z_resm h1 am (f_setCores σ (Z.2.2.1 (i + 1)) (Z.2.2.1 (i + 2)))) 0 [.ref (am 600), .int (Z.2.2.1 (i + 1)), .int (Z.2.2.1 (i + 2))] [] h1 := fun h1 H => c_X6_setCores H
  generalize f_setCores σ (Z.2.2.1 (i + 1)) (Z.2.2.1 (i + 2)) = a at hb9 cL cM
  refine ilaw_457 rfl ?_
  refine ilaw_463 (j := i + 1) (nI_add i 1) (by omega) (by omega) ?_
  refine ilaw_464 rfl ?_
  refine ilaw_469 (j := i + 2) (nI_add i 2) (by omega) (by omega) ?_
  refine ilaw_470 rfl ?_
  refine ilaw_471 (R' := zR 8 128 2 12) rfl rfl ⟨Nat.le_trans (by decide) r1, Nat.le_trans (by decide) r2, by show k + 2 ≤ R.cells; omega, by show n + 12 ≤ R.slots; omega⟩ cL (fun v h' w => ?_) (fun e h' w => by cases w.1)
  obtain ⟨w1, w2, ⟨ad', w3, w4⟩, f', w5, w6⟩ := w
  cases w1
  obtain ⟨g1, rfl⟩ : ∃ q, q = h' := ⟨_, rfl⟩
  have H2' := H2.kept (h' := g1) (fun x a b => w2 x (by omega) (by omega))
  obtain ⟨fs, ho⟩ := H2'.obj
  refine ilaw_474 rfl ?_
  refine ilaw_482 (j := i + 1) (nI_add i 1) (by omega) (by omega) ?_
  refine ilaw_483 rfl ?_
  refine ilaw_488 (j := i + 2) (nI_add i 2) (by omega) (by omega) ?_
  refine ilaw_489 (R' := zR 2 43 0 0) rfl rfl ho ⟨Nat.le_trans (by decide) r1, Nat.le_trans (by decide) r2, by show k + 2 + 0 ≤ R.cells; omega, by show n + 12 + 0 ≤ R.slots; omega⟩ (cM _ H2') (fun v h' y => ?_) (fun e h' y => by cases y.1)
  obtain ⟨y1, y2, y3⟩ := y
  cases y1
  obtain ⟨g2, rfl⟩ : ∃ q, q = h' := ⟨_, rfl⟩
  obtain ⟨fs2, ho2⟩ := y3.obj
  have INV : z_inv Z g2 (ad 1) (am 600) ao := ⟨_, ad', am, _, f', w3, rfl, w4.hi (fun x hx => y2 x (by omega)), y3, (y2 700 (by omega)).trans w5⟩
  refine ilaw_492 rfl ?_
  refine ilaw_495 (R' := zR 0 0 0 0) rfl rfl ho2 ⟨Nat.le_trans (by decide) r1, Nat.le_trans (by decide) r2, by show k + 2 + 0 + 0 ≤ R.cells; omega, by show n + 12 + 0 + 0 ≤ R.slots; omega⟩ (c_X6_thrown y3) (z_qr ?_) z_qx
  refine ilaw_498 rfl ?_
  refine ilaw_500 (fun c => ?_) (fun c => absurd rfl c)
  refine ilaw_505 rfl ?_
  refine ilaw_507 (fun c => ?_) (fun c => ?_)
  · refine ilaw_522 rfl ?_
    refine z_J.widen (k + 26) (n + 208) (by show k + 2 + 0 + 0 ≤ _; omega) (by show n + 12 + 0 + 0 ≤ _; omega) ?_
    exact GO g2 [_, _] INV
  · have a0 := n_e0 c (by omega)
    refine ilaw_510 rfl ?_
    refine ilaw_512 (r := 700) (j := 0) (N := 1) ((y2 700 (by omega)).trans w5) rfl (by omega) (by omega) ?_
    refine ilaw_513 rfl ?_
    refine ilaw_516 ?_
    refine ilaw_517 (fun c => ?_) (fun c => absurd ((lg_cmp_eq _ _).mpr (w6 a0)) c)
    refine ilaw_522 rfl ?_
    refine z_J.widen (k + 26) (n + 208) (by show k + 2 + 0 + 0 ≤ _; omega) (by show n + 12 + 0 + 0 ≤ _; omega) ?_
    exact GO g2 [_, _] INV
theorem k_tellApart (H : z_inv Z g a1 a6 ao) (hi : i + 6 ≤ Z.2.1) (hL : Z.2.1 < 100000) (hRL : z_RL R) (hk : k + 26 ≤ R.cells) (hn : n + 208 ≤ R.slots) (GO : ∀ (g' : zH) (st : List Value), z_inv Z g' a1 a6 ao → z_J Z mlaw R (k + 26) (n + 208) Q 1462 ([.ref Z.1, .ref a1, .ref a6, .ref ao, .int (nI i)] ++ st) [] g') : z_J Z mlaw R k n Q 525 [.ref Z.1, .ref a1, .ref a6, .ref ao, .int (nI i)] [] g := by
  obtain ⟨σ, ad, am, th, f, rfl, rfl, H1, H2, H3⟩ := H
  obtain ⟨r1, r2⟩ := hRL
  by_cases hz : Z.2.2.1 (i + 2) = 0
  · have hb9 := fb_tellApart σ (Z.2.2.1 (i + 1)) false
    have cL := c_L_tellApart (Z := Z) (h := g) (m := (Z.2.2.1 (i + 1))) (b := false) H1 H3
    have cM : ∀ h1, z_mod h1 am th σ → z_J Z mX6_tellApart (zR 2 43 0 0) 0 0 (z_resm h1 am (f_tellApart σ (Z.2.2.1 (i + 1)) false)) 0 [.ref (am 600), .int (Z.2.2.1 (i + 1)), .int (zb false)] [] h1 := fun h1 H => c_X6_tellApart H
    generalize f_tellApart σ (Z.2.2.1 (i + 1)) false = a at hb9 cL cM
    refine ilaw_525 rfl ?_
    refine ilaw_531 (j := i + 1) (nI_add i 1) (by omega) (by omega) ?_
    refine ilaw_532 rfl ?_
    refine ilaw_537 (j := i + 2) (nI_add i 2) (by omega) (by omega) ?_
    refine ilaw_538 (fun c => ?_) (fun c => absurd hz c)
    refine ilaw_545 rfl ?_
    refine ilaw_546 rfl ?_
    refine ilaw_547 (R' := zR 8 126 1 6) rfl rfl ⟨Nat.le_trans (by decide) r1, Nat.le_trans (by decide) r2, by show k + 1 ≤ R.cells; omega, by show n + 6 ≤ R.slots; omega⟩ cL (fun v h' w => ?_) (fun e h' w => by cases w.1)
    obtain ⟨w1, w2, ⟨ad', w3, w4⟩, f', w5, w6⟩ := w
    cases w1
    obtain ⟨g1, rfl⟩ : ∃ q, q = h' := ⟨_, rfl⟩
    have H2' := H2.kept (h' := g1) (fun x a b => w2 x (by omega) (by omega))
    obtain ⟨fs, ho⟩ := H2'.obj
    refine ilaw_550 rfl ?_
    refine ilaw_558 (j := i + 1) (nI_add i 1) (by omega) (by omega) ?_
    refine ilaw_559 rfl ?_
    refine ilaw_564 (j := i + 2) (nI_add i 2) (by omega) (by omega) ?_
    refine ilaw_565 (fun c => ?_) (fun c => absurd hz c)
    refine ilaw_572 rfl ?_
    refine ilaw_573 (R' := zR 2 43 0 0) rfl rfl ho ⟨Nat.le_trans (by decide) r1, Nat.le_trans (by decide) r2, by show k + 1 + 0 ≤ R.cells; omega, by show n + 6 + 0 ≤ R.slots; omega⟩ (cM _ H2') (fun v h' y => ?_) (fun e h' y => by cases y.1)
    obtain ⟨y1, y2, y3⟩ := y
    cases y1
    obtain ⟨g2, rfl⟩ : ∃ q, q = h' := ⟨_, rfl⟩
    obtain ⟨fs2, ho2⟩ := y3.obj
    have INV : z_inv Z g2 (ad 1) (am 600) ao := ⟨_, ad', am, _, f', w3, rfl, w4.hi (fun x hx => y2 x (by omega)), y3, (y2 700 (by omega)).trans w5⟩
    refine ilaw_576 rfl ?_
    refine ilaw_579 (R' := zR 0 0 0 0) rfl rfl ho2 ⟨Nat.le_trans (by decide) r1, Nat.le_trans (by decide) r2, by show k + 1 + 0 + 0 ≤ R.cells; omega, by show n + 6 + 0 + 0 ≤ R.slots; omega⟩ (c_X6_thrown y3) (z_qr ?_) z_qx
    refine ilaw_582 rfl ?_
    refine ilaw_584 (fun c => ?_) (fun c => absurd rfl c)
    refine ilaw_589 rfl ?_
    refine ilaw_591 (fun c => ?_) (fun c => ?_)
    · refine ilaw_606 rfl ?_
      refine z_J.widen (k + 26) (n + 208) (by show k + 1 + 0 + 0 ≤ _; omega) (by show n + 6 + 0 + 0 ≤ _; omega) ?_
      exact GO g2 [_, _] INV
    · have a0 := n_e0 c (by omega)
      refine ilaw_594 rfl ?_
      refine ilaw_596 (r := 700) (j := 0) (N := 1) ((y2 700 (by omega)).trans w5) rfl (by omega) (by omega) ?_
      refine ilaw_597 rfl ?_
      refine ilaw_600 ?_
      refine ilaw_601 (fun c => ?_) (fun c => absurd ((lg_cmp_eq _ _).mpr (w6 a0)) c)
      refine ilaw_606 rfl ?_
      refine z_J.widen (k + 26) (n + 208) (by show k + 1 + 0 + 0 ≤ _; omega) (by show n + 6 + 0 + 0 ≤ _; omega) ?_
      exact GO g2 [_, _] INV
  · have hb9 := fb_tellApart σ (Z.2.2.1 (i + 1)) true
    have cL := c_L_tellApart (Z := Z) (h := g) (m := (Z.2.2.1 (i + 1))) (b := true) H1 H3
    have cM : ∀ h1, z_mod h1 am th σ → z_J Z mX6_tellApart (zR 2 43 0 0) 0 0 (z_resm h1 am (f_tellApart σ (Z.2.2.1 (i + 1)) true)) 0 [.ref (am 600), .int (Z.2.2.1 (i + 1)), .int (zb true)] [] h1 := fun h1 H => c_X6_tellApart H
    generalize f_tellApart σ (Z.2.2.1 (i + 1)) true = a at hb9 cL cM
    refine ilaw_525 rfl ?_
    refine ilaw_531 (j := i + 1) (nI_add i 1) (by omega) (by omega) ?_
    refine ilaw_532 rfl ?_
    refine ilaw_537 (j := i + 2) (nI_add i 2) (by omega) (by omega) ?_
    refine ilaw_538 (fun c => absurd c hz) (fun c => ?_)
    refine ilaw_541 rfl ?_
    refine ilaw_546 rfl ?_
    refine ilaw_547 (R' := zR 8 126 1 6) rfl rfl ⟨Nat.le_trans (by decide) r1, Nat.le_trans (by decide) r2, by show k + 1 ≤ R.cells; omega, by show n + 6 ≤ R.slots; omega⟩ cL (fun v h' w => ?_) (fun e h' w => by cases w.1)
    obtain ⟨w1, w2, ⟨ad', w3, w4⟩, f', w5, w6⟩ := w
    cases w1
    obtain ⟨g1, rfl⟩ : ∃ q, q = h' := ⟨_, rfl⟩
    have H2' := H2.kept (h' := g1) (fun x a b => w2 x (by omega) (by omega))
    obtain ⟨fs, ho⟩ := H2'.obj
    refine ilaw_550 rfl ?_
    refine ilaw_558 (j := i + 1) (nI_add i 1) (by omega) (by omega) ?_
    refine ilaw_559 rfl ?_
    refine ilaw_564 (j := i + 2) (nI_add i 2) (by omega) (by omega) ?_
    refine ilaw_565 (fun c => absurd c hz) (fun c => ?_)
    refine ilaw_568 rfl ?_
    refine ilaw_573 (R' := zR 2 43 0 0) rfl rfl ho ⟨Nat.le_trans (by decide) r1, Nat.le_trans (by decide) r2, by show k + 1 + 0 ≤ R.cells; omega, by show n + 6 + 0 ≤ R.slots; omega⟩ (cM _ H2') (fun v h' y => ?_) (fun e h' y => by cases y.1)
    obtain ⟨y1, y2, y3⟩ := y
    cases y1
    obtain ⟨g2, rfl⟩ : ∃ q, q = h' := ⟨_, rfl⟩
    obtain ⟨fs2, ho2⟩ := y3.obj
    have INV : z_inv Z g2 (ad 1) (am 600) ao := ⟨_, ad', am, _, f', w3, rfl, w4.hi (fun x hx => y2 x (by omega)), y3, (y2 700 (by omega)).trans w5⟩
    refine ilaw_576 rfl ?_
    refine ilaw_579 (R' := zR 0 0 0 0) rfl rfl ho2 ⟨Nat.le_trans (by decide) r1, Nat.le_trans (by decide) r2, by show k + 1 + 0 + 0 ≤ R.cells; omega, by show n + 6 + 0 + 0 ≤ R.slots; omega⟩ (c_X6_thrown y3) (z_qr ?_) z_qx
    refine ilaw_582 rfl ?_
    refine ilaw_584 (fun c => ?_) (fun c => absurd rfl c)
    refine ilaw_589 rfl ?_
    refine ilaw_591 (fun c => ?_) (fun c => ?_)
    · refine ilaw_606 rfl ?_
      refine z_J.widen (k + 26) (n + 208) (by show k + 1 + 0 + 0 ≤ _; omega) (by show n + 6 + 0 + 0 ≤ _; omega) ?_
      exact GO g2 [_, _] INV
    · have a0 := n_e0 c (by omega)
      refine ilaw_594 rfl ?_
      refine ilaw_596 (r := 700) (j := 0) (N := 1) ((y2 700 (by omega)).trans w5) rfl (by omega) (by omega) ?_
      refine ilaw_597 rfl ?_
      refine ilaw_600 ?_
      refine ilaw_601 (fun c => ?_) (fun c => absurd ((lg_cmp_eq _ _).mpr (w6 a0)) c)
      refine ilaw_606 rfl ?_
      refine z_J.widen (k + 26) (n + 208) (by show k + 1 + 0 + 0 ≤ _; omega) (by show n + 6 + 0 + 0 ≤ _; omega) ?_
      exact GO g2 [_, _] INV
theorem k_setCoresOfUnit (H : z_inv Z g a1 a6 ao) (hi : i + 6 ≤ Z.2.1) (hL : Z.2.1 < 100000) (hRL : z_RL R) (hk : k + 26 ≤ R.cells) (hn : n + 208 ≤ R.slots) (GO : ∀ (g' : zH) (st : List Value), z_inv Z g' a1 a6 ao → z_J Z mlaw R (k + 26) (n + 208) Q 1462 ([.ref Z.1, .ref a1, .ref a6, .ref ao, .int (nI i)] ++ st) [] g') : z_J Z mlaw R k n Q 609 [.ref Z.1, .ref a1, .ref a6, .ref ao, .int (nI i)] [] g := by
  obtain ⟨σ, ad, am, th, f, rfl, rfl, H1, H2, H3⟩ := H
  obtain ⟨r1, r2⟩ := hRL
  have hb9 := fb_setCoresOfUnit σ (Z.2.2.1 (i + 1)) (Z.2.2.1 (i + 2))
  have cL := c_L_setCoresOfUnit (Z := Z) (h := g) (p := (Z.2.2.1 (i + 1))) (v := (Z.2.2.1 (i + 2))) H1 H3
  have cM : ∀ h1, z_mod h1 am th σ → z_J Z mX6_setCoresOfUnit (zR 2 42 0 0) 0 0 (z_resm h1 am (f_setCoresOfUnit σ (Z.2.2.1 (i + 1)) (Z.2.2.1 (i + 2)))) 0 [.ref (am 600), .int (Z.2.2.1 (i + 1)), .int (Z.2.2.1 (i + 2))] [] h1 := fun h1 H => c_X6_setCoresOfUnit H
  generalize f_setCoresOfUnit σ (Z.2.2.1 (i + 1)) (Z.2.2.1 (i + 2)) = a at hb9 cL cM
  refine ilaw_609 rfl ?_
  refine ilaw_615 (j := i + 1) (nI_add i 1) (by omega) (by omega) ?_
  refine ilaw_616 rfl ?_
  refine ilaw_621 (j := i + 2) (nI_add i 2) (by omega) (by omega) ?_
  refine ilaw_622 rfl ?_
  refine ilaw_623 (R' := zR 8 127 2 12) rfl rfl ⟨Nat.le_trans (by decide) r1, Nat.le_trans (by decide) r2, by show k + 2 ≤ R.cells; omega, by show n + 12 ≤ R.slots; omega⟩ cL (fun v h' w => ?_) (fun e h' w => by cases w.1)
  obtain ⟨w1, w2, ⟨ad', w3, w4⟩, f', w5, w6⟩ := w
  cases w1
  obtain ⟨g1, rfl⟩ : ∃ q, q = h' := ⟨_, rfl⟩
  have H2' := H2.kept (h' := g1) (fun x a b => w2 x (by omega) (by omega))
  obtain ⟨fs, ho⟩ := H2'.obj
  refine ilaw_626 rfl ?_
  refine ilaw_634 (j := i + 1) (nI_add i 1) (by omega) (by omega) ?_
  refine ilaw_635 rfl ?_
  refine ilaw_640 (j := i + 2) (nI_add i 2) (by omega) (by omega) ?_
  refine ilaw_641 (R' := zR 2 42 0 0) rfl rfl ho ⟨Nat.le_trans (by decide) r1, Nat.le_trans (by decide) r2, by show k + 2 + 0 ≤ R.cells; omega, by show n + 12 + 0 ≤ R.slots; omega⟩ (cM _ H2') (fun v h' y => ?_) (fun e h' y => by cases y.1)
  obtain ⟨y1, y2, y3⟩ := y
  cases y1
  obtain ⟨g2, rfl⟩ : ∃ q, q = h' := ⟨_, rfl⟩
  obtain ⟨fs2, ho2⟩ := y3.obj
  have INV : z_inv Z g2 (ad 1) (am 600) ao := ⟨_, ad', am, _, f', w3, rfl, w4.hi (fun x hx => y2 x (by omega)), y3, (y2 700 (by omega)).trans w5⟩
  refine ilaw_644 rfl ?_
  refine ilaw_647 (R' := zR 0 0 0 0) rfl rfl ho2 ⟨Nat.le_trans (by decide) r1, Nat.le_trans (by decide) r2, by show k + 2 + 0 + 0 ≤ R.cells; omega, by show n + 12 + 0 + 0 ≤ R.slots; omega⟩ (c_X6_thrown y3) (z_qr ?_) z_qx
  refine ilaw_650 rfl ?_
  refine ilaw_652 (fun c => ?_) (fun c => absurd rfl c)
  refine ilaw_657 rfl ?_
  refine ilaw_659 (fun c => ?_) (fun c => ?_)
  · refine ilaw_674 rfl ?_
    refine z_J.widen (k + 26) (n + 208) (by show k + 2 + 0 + 0 ≤ _; omega) (by show n + 12 + 0 + 0 ≤ _; omega) ?_
    exact GO g2 [_, _] INV
  · have a0 := n_e0 c (by omega)
    refine ilaw_662 rfl ?_
    refine ilaw_664 (r := 700) (j := 0) (N := 1) ((y2 700 (by omega)).trans w5) rfl (by omega) (by omega) ?_
    refine ilaw_665 rfl ?_
    refine ilaw_668 ?_
    refine ilaw_669 (fun c => ?_) (fun c => absurd ((lg_cmp_eq _ _).mpr (w6 a0)) c)
    refine ilaw_674 rfl ?_
    refine z_J.widen (k + 26) (n + 208) (by show k + 2 + 0 + 0 ≤ _; omega) (by show n + 12 + 0 + 0 ≤ _; omega) ?_
    exact GO g2 [_, _] INV
theorem k_machines (H : z_inv Z g a1 a6 ao) (hi : i + 6 ≤ Z.2.1) (hL : Z.2.1 < 100000) (hRL : z_RL R) (hk : k + 26 ≤ R.cells) (hn : n + 208 ≤ R.slots) (GO : ∀ (g' : zH) (st : List Value), z_inv Z g' a1 a6 ao → z_J Z mlaw R (k + 26) (n + 208) Q 1462 ([.ref Z.1, .ref a1, .ref a6, .ref ao, .int (nI i)] ++ st) [] g') : z_J Z mlaw R k n Q 677 [.ref Z.1, .ref a1, .ref a6, .ref ao, .int (nI i)] [] g := by
  obtain ⟨σ, ad, am, th, f, rfl, rfl, H1, H2, H3⟩ := H
  obtain ⟨r1, r2⟩ := hRL
  refine ilaw_677 rfl ?_
  refine ilaw_678 (R' := zR 1 20 0 0) rfl rfl H1.1.2.1 ⟨Nat.le_trans (by decide) r1, Nat.le_trans (by decide) r2, by show k + 0 ≤ R.cells; omega, by show n + 0 ≤ R.slots; omega⟩ (c_X5_machines H1) (fun v h' w => ?_) (fun e h' w => absurd rfl (z_o_inr w.1).1)
  obtain ⟨w1, w2, ad', w3, w4⟩ := w
  obtain ⟨-, rfl⟩ := z_o_inl w1
  obtain ⟨g1, rfl⟩ : ∃ q, q = h' := ⟨_, rfl⟩
  have H2' := H2.kept (h' := g1) (fun x a b => w2 x (by omega))
  obtain ⟨fs, ho⟩ := H2'.obj
  refine ilaw_681 rfl ?_
  refine ilaw_682 (R' := zR 0 0 0 0) rfl rfl ho ⟨Nat.le_trans (by decide) r1, Nat.le_trans (by decide) r2, by show k + 0 + 0 ≤ R.cells; omega, by show n + 0 + 0 ≤ R.slots; omega⟩ (c_X6_machines H2') (fun v h' y => ?_) (fun e h' y => by cases y.1)
  obtain ⟨y1, y2, y3⟩ := y
  cases y1
  obtain ⟨g2, rfl⟩ : ∃ q, q = h' := ⟨_, rfl⟩
  refine ilaw_685 (fun c => ?_) (fun c => absurd rfl c)
  refine z_J.widen (k + 26) (n + 208) (by show k + 0 + 0 ≤ _; omega) (by show n + 0 + 0 ≤ _; omega) ?_
  exact GO g2 [] ⟨_, ad', am, _, f, w3, rfl, w4.hi (fun x hx => y2 x (by omega)), y3, (y2 700 (by omega)).trans ((w2 700 (by omega)).trans H3)⟩
theorem k_install (H : z_inv Z g a1 a6 ao) (hi : i + 6 ≤ Z.2.1) (hL : Z.2.1 < 100000) (hRL : z_RL R) (hk : k + 26 ≤ R.cells) (hn : n + 208 ≤ R.slots) (GO : ∀ (g' : zH) (st : List Value), z_inv Z g' a1 a6 ao → z_J Z mlaw R (k + 26) (n + 208) Q 1462 ([.ref Z.1, .ref a1, .ref a6, .ref ao, .int (nI i)] ++ st) [] g') : z_J Z mlaw R k n Q 690 [.ref Z.1, .ref a1, .ref a6, .ref ao, .int (nI i)] [] g := by
  obtain ⟨σ, ad, am, th, f, rfl, rfl, H1, H2, H3⟩ := H
  obtain ⟨r1, r2⟩ := hRL
  have hb9 := fb_install σ (Z.2.2.1 (i + 1)) (Z.2.2.1 (i + 2)) (Z.2.2.1 (i + 3)) (Z.2.2.1 (i + 4))
  have cL := c_L_install (Z := Z) (h := g) (m := (Z.2.2.1 (i + 1))) (p := (Z.2.2.1 (i + 2))) (v := (Z.2.2.1 (i + 3))) (d := (Z.2.2.1 (i + 4))) H1 H3
  have cM : ∀ h1, z_mod h1 am th σ → z_J Z mX6_install (zR 2 43 0 0) 0 0 (z_resm h1 am (f_install σ (Z.2.2.1 (i + 1)) (Z.2.2.1 (i + 2)) (Z.2.2.1 (i + 3)) (Z.2.2.1 (i + 4)))) 0 [.ref (am 600), .int (Z.2.2.1 (i + 1)), .int (Z.2.2.1 (i + 2)), .int (Z.2.2.1 (i + 3)), .int (Z.2.2.1 (i + 4))] [] h1 := fun h1 H => c_X6_install H
  generalize f_install σ (Z.2.2.1 (i + 1)) (Z.2.2.1 (i + 2)) (Z.2.2.1 (i + 3)) (Z.2.2.1 (i + 4)) = a at hb9 cL cM
  refine ilaw_690 rfl ?_
  refine ilaw_696 (j := i + 1) (nI_add i 1) (by omega) (by omega) ?_
  refine ilaw_697 rfl ?_
  refine ilaw_702 (j := i + 2) (nI_add i 2) (by omega) (by omega) ?_
  refine ilaw_703 rfl ?_
  refine ilaw_708 (j := i + 3) (nI_add i 3) (by omega) (by omega) ?_
  refine ilaw_709 rfl ?_
  refine ilaw_714 (j := i + 4) (nI_add i 4) (by omega) (by omega) ?_
  refine ilaw_715 rfl ?_
  refine ilaw_716 (R' := zR 9 150 5 30) rfl rfl ⟨Nat.le_trans (by decide) r1, Nat.le_trans (by decide) r2, by show k + 5 ≤ R.cells; omega, by show n + 30 ≤ R.slots; omega⟩ cL (fun v h' w => ?_) (fun e h' w => by cases w.1)
  obtain ⟨w1, w2, ⟨ad', w3, w4⟩, f', w5, w6⟩ := w
  cases w1
  obtain ⟨g1, rfl⟩ : ∃ q, q = h' := ⟨_, rfl⟩
  have H2' := H2.kept (h' := g1) (fun x a b => w2 x (by omega) (by omega))
  obtain ⟨fs, ho⟩ := H2'.obj
  refine ilaw_719 rfl ?_
  refine ilaw_727 (j := i + 1) (nI_add i 1) (by omega) (by omega) ?_
  refine ilaw_728 rfl ?_
  refine ilaw_733 (j := i + 2) (nI_add i 2) (by omega) (by omega) ?_
  refine ilaw_734 rfl ?_
  refine ilaw_739 (j := i + 3) (nI_add i 3) (by omega) (by omega) ?_
  refine ilaw_740 rfl ?_
  refine ilaw_745 (j := i + 4) (nI_add i 4) (by omega) (by omega) ?_
  refine ilaw_746 (R' := zR 2 43 0 0) rfl rfl ho ⟨Nat.le_trans (by decide) r1, Nat.le_trans (by decide) r2, by show k + 5 + 0 ≤ R.cells; omega, by show n + 30 + 0 ≤ R.slots; omega⟩ (cM _ H2') (fun v h' y => ?_) (fun e h' y => by cases y.1)
  obtain ⟨y1, y2, y3⟩ := y
  cases y1
  obtain ⟨g2, rfl⟩ : ∃ q, q = h' := ⟨_, rfl⟩
  obtain ⟨fs2, ho2⟩ := y3.obj
  have INV : z_inv Z g2 (ad 1) (am 600) ao := ⟨_, ad', am, _, f', w3, rfl, w4.hi (fun x hx => y2 x (by omega)), y3, (y2 700 (by omega)).trans w5⟩
  refine ilaw_749 rfl ?_
  refine ilaw_752 (R' := zR 0 0 0 0) rfl rfl ho2 ⟨Nat.le_trans (by decide) r1, Nat.le_trans (by decide) r2, by show k + 5 + 0 + 0 ≤ R.cells; omega, by show n + 30 + 0 + 0 ≤ R.slots; omega⟩ (c_X6_thrown y3) (z_qr ?_) z_qx
  refine ilaw_755 rfl ?_
  refine ilaw_757 (fun c => ?_) (fun c => absurd rfl c)
  refine ilaw_762 rfl ?_
  refine ilaw_764 (fun c => ?_) (fun c => ?_)
  · refine ilaw_779 rfl ?_
    refine z_J.widen (k + 26) (n + 208) (by show k + 5 + 0 + 0 ≤ _; omega) (by show n + 30 + 0 + 0 ≤ _; omega) ?_
    exact GO g2 [_, _] INV
  · have a0 := n_e0 c (by omega)
    refine ilaw_767 rfl ?_
    refine ilaw_769 (r := 700) (j := 0) (N := 1) ((y2 700 (by omega)).trans w5) rfl (by omega) (by omega) ?_
    refine ilaw_770 rfl ?_
    refine ilaw_773 ?_
    refine ilaw_774 (fun c => ?_) (fun c => absurd ((lg_cmp_eq _ _).mpr (w6 a0)) c)
    refine ilaw_779 rfl ?_
    refine z_J.widen (k + 26) (n + 208) (by show k + 5 + 0 + 0 ≤ _; omega) (by show n + 30 + 0 + 0 ≤ _; omega) ?_
    exact GO g2 [_, _] INV
theorem k_uninstall (H : z_inv Z g a1 a6 ao) (hi : i + 6 ≤ Z.2.1) (hL : Z.2.1 < 100000) (hRL : z_RL R) (hk : k + 26 ≤ R.cells) (hn : n + 208 ≤ R.slots) (GO : ∀ (g' : zH) (st : List Value), z_inv Z g' a1 a6 ao → z_J Z mlaw R (k + 26) (n + 208) Q 1462 ([.ref Z.1, .ref a1, .ref a6, .ref ao, .int (nI i)] ++ st) [] g') : z_J Z mlaw R k n Q 782 [.ref Z.1, .ref a1, .ref a6, .ref ao, .int (nI i)] [] g := by
  obtain ⟨σ, ad, am, th, f, rfl, rfl, H1, H2, H3⟩ := H
  obtain ⟨r1, r2⟩ := hRL
  have hb9 := fb_uninstall σ (Z.2.2.1 (i + 1)) (Z.2.2.1 (i + 2)) (Z.2.2.1 (i + 3))
  have cL := c_L_uninstall (Z := Z) (h := g) (m := (Z.2.2.1 (i + 1))) (p := (Z.2.2.1 (i + 2))) (d := (Z.2.2.1 (i + 3))) H1 H3
  have cM : ∀ h1, z_mod h1 am th σ → z_J Z mX6_uninstall (zR 2 43 0 0) 0 0 (z_resm h1 am (f_uninstall σ (Z.2.2.1 (i + 1)) (Z.2.2.1 (i + 2)) (Z.2.2.1 (i + 3)))) 0 [.ref (am 600), .int (Z.2.2.1 (i + 1)), .int (Z.2.2.1 (i + 2)), .int (Z.2.2.1 (i + 3))] [] h1 := fun h1 H => c_X6_uninstall H
  generalize f_uninstall σ (Z.2.2.1 (i + 1)) (Z.2.2.1 (i + 2)) (Z.2.2.1 (i + 3)) = a at hb9 cL cM
  refine ilaw_782 rfl ?_
  refine ilaw_788 (j := i + 1) (nI_add i 1) (by omega) (by omega) ?_
  refine ilaw_789 rfl ?_
  refine ilaw_794 (j := i + 2) (nI_add i 2) (by omega) (by omega) ?_
  refine ilaw_795 rfl ?_
  refine ilaw_800 (j := i + 3) (nI_add i 3) (by omega) (by omega) ?_
  refine ilaw_801 rfl ?_
  refine ilaw_802 (R' := zR 9 149 4 24) rfl rfl ⟨Nat.le_trans (by decide) r1, Nat.le_trans (by decide) r2, by show k + 4 ≤ R.cells; omega, by show n + 24 ≤ R.slots; omega⟩ cL (fun v h' w => ?_) (fun e h' w => by cases w.1)
  obtain ⟨w1, w2, ⟨ad', w3, w4⟩, f', w5, w6⟩ := w
  cases w1
  obtain ⟨g1, rfl⟩ : ∃ q, q = h' := ⟨_, rfl⟩
  have H2' := H2.kept (h' := g1) (fun x a b => w2 x (by omega) (by omega))
  obtain ⟨fs, ho⟩ := H2'.obj
  refine ilaw_805 rfl ?_
  refine ilaw_813 (j := i + 1) (nI_add i 1) (by omega) (by omega) ?_
  refine ilaw_814 rfl ?_
  refine ilaw_819 (j := i + 2) (nI_add i 2) (by omega) (by omega) ?_
  refine ilaw_820 rfl ?_
  refine ilaw_825 (j := i + 3) (nI_add i 3) (by omega) (by omega) ?_
  refine ilaw_826 (R' := zR 2 43 0 0) rfl rfl ho ⟨Nat.le_trans (by decide) r1, Nat.le_trans (by decide) r2, by show k + 4 + 0 ≤ R.cells; omega, by show n + 24 + 0 ≤ R.slots; omega⟩ (cM _ H2') (fun v h' y => ?_) (fun e h' y => by cases y.1)
  obtain ⟨y1, y2, y3⟩ := y
  cases y1
  obtain ⟨g2, rfl⟩ : ∃ q, q = h' := ⟨_, rfl⟩
  obtain ⟨fs2, ho2⟩ := y3.obj
  have INV : z_inv Z g2 (ad 1) (am 600) ao := ⟨_, ad', am, _, f', w3, rfl, w4.hi (fun x hx => y2 x (by omega)), y3, (y2 700 (by omega)).trans w5⟩
  refine ilaw_829 rfl ?_
  refine ilaw_832 (R' := zR 0 0 0 0) rfl rfl ho2 ⟨Nat.le_trans (by decide) r1, Nat.le_trans (by decide) r2, by show k + 4 + 0 + 0 ≤ R.cells; omega, by show n + 24 + 0 + 0 ≤ R.slots; omega⟩ (c_X6_thrown y3) (z_qr ?_) z_qx
  refine ilaw_835 rfl ?_
  refine ilaw_837 (fun c => ?_) (fun c => absurd rfl c)
  refine ilaw_842 rfl ?_
  refine ilaw_844 (fun c => ?_) (fun c => ?_)
  · refine ilaw_859 rfl ?_
    refine z_J.widen (k + 26) (n + 208) (by show k + 4 + 0 + 0 ≤ _; omega) (by show n + 24 + 0 + 0 ≤ _; omega) ?_
    exact GO g2 [_, _] INV
  · have a0 := n_e0 c (by omega)
    refine ilaw_847 rfl ?_
    refine ilaw_849 (r := 700) (j := 0) (N := 1) ((y2 700 (by omega)).trans w5) rfl (by omega) (by omega) ?_
    refine ilaw_850 rfl ?_
    refine ilaw_853 ?_
    refine ilaw_854 (fun c => ?_) (fun c => absurd ((lg_cmp_eq _ _).mpr (w6 a0)) c)
    refine ilaw_859 rfl ?_
    refine z_J.widen (k + 26) (n + 208) (by show k + 4 + 0 + 0 ≤ _; omega) (by show n + 24 + 0 + 0 ≤ _; omega) ?_
    exact GO g2 [_, _] INV
theorem k_runs (H : z_inv Z g a1 a6 ao) (hi : i + 6 ≤ Z.2.1) (hL : Z.2.1 < 100000) (hRL : z_RL R) (hk : k + 26 ≤ R.cells) (hn : n + 208 ≤ R.slots) (GO : ∀ (g' : zH) (st : List Value), z_inv Z g' a1 a6 ao → z_J Z mlaw R (k + 26) (n + 208) Q 1462 ([.ref Z.1, .ref a1, .ref a6, .ref ao, .int (nI i)] ++ st) [] g') : z_J Z mlaw R k n Q 862 [.ref Z.1, .ref a1, .ref a6, .ref ao, .int (nI i)] [] g := by
  obtain ⟨σ, ad, am, th, f, rfl, rfl, H1, H2, H3⟩ := H
  obtain ⟨r1, r2⟩ := hRL
  have hb9 := fb_runs σ (Z.2.2.1 (i + 1)) (Z.2.2.1 (i + 2)) (Z.2.2.1 (i + 3))
  have cL := c_L_runs (Z := Z) (h := g) (m := (Z.2.2.1 (i + 1))) (p := (Z.2.2.1 (i + 2))) (d := (Z.2.2.1 (i + 3))) H1 H3
  have cM : ∀ h1, z_mod h1 am th σ → z_J Z mX6_runs (zR 2 43 0 0) 0 0 (z_resm h1 am (f_runs σ (Z.2.2.1 (i + 1)) (Z.2.2.1 (i + 2)) (Z.2.2.1 (i + 3)))) 0 [.ref (am 600), .int (Z.2.2.1 (i + 1)), .int (Z.2.2.1 (i + 2)), .int (Z.2.2.1 (i + 3))] [] h1 := fun h1 H => c_X6_runs H
  generalize f_runs σ (Z.2.2.1 (i + 1)) (Z.2.2.1 (i + 2)) (Z.2.2.1 (i + 3)) = a at hb9 cL cM
  refine ilaw_862 rfl ?_
  refine ilaw_868 (j := i + 1) (nI_add i 1) (by omega) (by omega) ?_
  refine ilaw_869 rfl ?_
  refine ilaw_874 (j := i + 2) (nI_add i 2) (by omega) (by omega) ?_
  refine ilaw_875 rfl ?_
  refine ilaw_880 (j := i + 3) (nI_add i 3) (by omega) (by omega) ?_
  refine ilaw_881 rfl ?_
  refine ilaw_882 (R' := zR 9 149 3 18) rfl rfl ⟨Nat.le_trans (by decide) r1, Nat.le_trans (by decide) r2, by show k + 3 ≤ R.cells; omega, by show n + 18 ≤ R.slots; omega⟩ cL (fun v h' w => ?_) (fun e h' w => by cases w.1)
  obtain ⟨w1, w2, ⟨ad', w3, w4⟩, f', w5, w6⟩ := w
  cases w1
  obtain ⟨g1, rfl⟩ : ∃ q, q = h' := ⟨_, rfl⟩
  have H2' := H2.kept (h' := g1) (fun x a b => w2 x (by omega) (by omega))
  obtain ⟨fs, ho⟩ := H2'.obj
  refine ilaw_885 rfl ?_
  refine ilaw_893 (j := i + 1) (nI_add i 1) (by omega) (by omega) ?_
  refine ilaw_894 rfl ?_
  refine ilaw_899 (j := i + 2) (nI_add i 2) (by omega) (by omega) ?_
  refine ilaw_900 rfl ?_
  refine ilaw_905 (j := i + 3) (nI_add i 3) (by omega) (by omega) ?_
  refine ilaw_906 (R' := zR 2 43 0 0) rfl rfl ho ⟨Nat.le_trans (by decide) r1, Nat.le_trans (by decide) r2, by show k + 3 + 0 ≤ R.cells; omega, by show n + 18 + 0 ≤ R.slots; omega⟩ (cM _ H2') (fun v h' y => ?_) (fun e h' y => by cases y.1)
  obtain ⟨y1, y2, y3⟩ := y
  cases y1
  obtain ⟨g2, rfl⟩ : ∃ q, q = h' := ⟨_, rfl⟩
  obtain ⟨fs2, ho2⟩ := y3.obj
  have INV : z_inv Z g2 (ad 1) (am 600) ao := ⟨_, ad', am, _, f', w3, rfl, w4.hi (fun x hx => y2 x (by omega)), y3, (y2 700 (by omega)).trans w5⟩
  refine ilaw_909 rfl ?_
  refine ilaw_912 (R' := zR 0 0 0 0) rfl rfl ho2 ⟨Nat.le_trans (by decide) r1, Nat.le_trans (by decide) r2, by show k + 3 + 0 + 0 ≤ R.cells; omega, by show n + 18 + 0 + 0 ≤ R.slots; omega⟩ (c_X6_thrown y3) (z_qr ?_) z_qx
  refine ilaw_915 rfl ?_
  refine ilaw_917 (fun c => ?_) (fun c => absurd rfl c)
  refine ilaw_922 rfl ?_
  refine ilaw_924 (fun c => ?_) (fun c => ?_)
  · refine ilaw_939 rfl ?_
    refine z_J.widen (k + 26) (n + 208) (by show k + 3 + 0 + 0 ≤ _; omega) (by show n + 18 + 0 + 0 ≤ _; omega) ?_
    exact GO g2 [_, _] INV
  · have a0 := n_e0 c (by omega)
    refine ilaw_927 rfl ?_
    refine ilaw_929 (r := 700) (j := 0) (N := 1) ((y2 700 (by omega)).trans w5) rfl (by omega) (by omega) ?_
    refine ilaw_930 rfl ?_
    refine ilaw_933 ?_
    refine ilaw_934 (fun c => ?_) (fun c => absurd ((lg_cmp_eq _ _).mpr (w6 a0)) c)
    refine ilaw_939 rfl ?_
    refine z_J.widen (k + 26) (n + 208) (by show k + 3 + 0 + 0 ≤ _; omega) (by show n + 18 + 0 + 0 ≤ _; omega) ?_
    exact GO g2 [_, _] INV
theorem k_needs (H : z_inv Z g a1 a6 ao) (hi : i + 6 ≤ Z.2.1) (hL : Z.2.1 < 100000) (hRL : z_RL R) (hk : k + 26 ≤ R.cells) (hn : n + 208 ≤ R.slots) (GO : ∀ (g' : zH) (st : List Value), z_inv Z g' a1 a6 ao → z_J Z mlaw R (k + 26) (n + 208) Q 1462 ([.ref Z.1, .ref a1, .ref a6, .ref ao, .int (nI i)] ++ st) [] g') : z_J Z mlaw R k n Q 942 [.ref Z.1, .ref a1, .ref a6, .ref ao, .int (nI i)] [] g := by
  obtain ⟨σ, ad, am, th, f, rfl, rfl, H1, H2, H3⟩ := H
  obtain ⟨r1, r2⟩ := hRL
  have hb9 := fb_needs σ (Z.2.2.1 (i + 1))
  have cL := c_L_needs (Z := Z) (h := g) (d := (Z.2.2.1 (i + 1))) H1 H3
  have cM : ∀ h1, z_mod h1 am th σ → z_J Z mX6_needs (zR 2 50 0 0) 0 0 (z_resm h1 am (f_needs σ (Z.2.2.1 (i + 1)))) 0 [.ref (am 600), .int (Z.2.2.1 (i + 1))] [] h1 := fun h1 H => c_X6_needs H
  generalize f_needs σ (Z.2.2.1 (i + 1)) = a at hb9 cL cM
  refine ilaw_942 rfl ?_
  refine ilaw_948 (j := i + 1) (nI_add i 1) (by omega) (by omega) ?_
  refine ilaw_949 rfl ?_
  refine ilaw_950 (R' := zR 9 145 1 6) rfl rfl ⟨Nat.le_trans (by decide) r1, Nat.le_trans (by decide) r2, by show k + 1 ≤ R.cells; omega, by show n + 6 ≤ R.slots; omega⟩ cL (fun v h' w => ?_) (fun e h' w => by cases w.1)
  obtain ⟨w1, w2, ⟨ad', w3, w4⟩, f', w5, w6⟩ := w
  cases w1
  obtain ⟨g1, rfl⟩ : ∃ q, q = h' := ⟨_, rfl⟩
  have H2' := H2.kept (h' := g1) (fun x a b => w2 x (by omega) (by omega))
  obtain ⟨fs, ho⟩ := H2'.obj
  refine ilaw_953 rfl ?_
  refine ilaw_961 (j := i + 1) (nI_add i 1) (by omega) (by omega) ?_
  refine ilaw_962 (R' := zR 2 50 0 0) rfl rfl ho ⟨Nat.le_trans (by decide) r1, Nat.le_trans (by decide) r2, by show k + 1 + 0 ≤ R.cells; omega, by show n + 6 + 0 ≤ R.slots; omega⟩ (cM _ H2') (fun v h' y => ?_) (fun e h' y => by cases y.1)
  obtain ⟨y1, y2, y3⟩ := y
  cases y1
  obtain ⟨g2, rfl⟩ : ∃ q, q = h' := ⟨_, rfl⟩
  obtain ⟨fs2, ho2⟩ := y3.obj
  have INV : z_inv Z g2 (ad 1) (am 600) ao := ⟨_, ad', am, _, f', w3, rfl, w4.hi (fun x hx => y2 x (by omega)), y3, (y2 700 (by omega)).trans w5⟩
  refine ilaw_965 rfl ?_
  refine ilaw_968 (R' := zR 0 0 0 0) rfl rfl ho2 ⟨Nat.le_trans (by decide) r1, Nat.le_trans (by decide) r2, by show k + 1 + 0 + 0 ≤ R.cells; omega, by show n + 6 + 0 + 0 ≤ R.slots; omega⟩ (c_X6_thrown y3) (z_qr ?_) z_qx
  refine ilaw_971 rfl ?_
  refine ilaw_973 (fun c => ?_) (fun c => absurd rfl c)
  refine ilaw_978 rfl ?_
  refine ilaw_980 (fun c => ?_) (fun c => ?_)
  · refine ilaw_995 rfl ?_
    refine z_J.widen (k + 26) (n + 208) (by show k + 1 + 0 + 0 ≤ _; omega) (by show n + 6 + 0 + 0 ≤ _; omega) ?_
    exact GO g2 [_, _] INV
  · have a0 := n_e0 c (by omega)
    refine ilaw_983 rfl ?_
    refine ilaw_985 (r := 700) (j := 0) (N := 1) ((y2 700 (by omega)).trans w5) rfl (by omega) (by omega) ?_
    refine ilaw_986 rfl ?_
    refine ilaw_989 ?_
    refine ilaw_990 (fun c => ?_) (fun c => absurd ((lg_cmp_eq _ _).mpr (w6 a0)) c)
    refine ilaw_995 rfl ?_
    refine z_J.widen (k + 26) (n + 208) (by show k + 1 + 0 + 0 ≤ _; omega) (by show n + 6 + 0 + 0 ≤ _; omega) ?_
    exact GO g2 [_, _] INV
theorem k_need (H : z_inv Z g a1 a6 ao) (hi : i + 6 ≤ Z.2.1) (hL : Z.2.1 < 100000) (hRL : z_RL R) (hk : k + 26 ≤ R.cells) (hn : n + 208 ≤ R.slots) (GO : ∀ (g' : zH) (st : List Value), z_inv Z g' a1 a6 ao → z_J Z mlaw R (k + 26) (n + 208) Q 1462 ([.ref Z.1, .ref a1, .ref a6, .ref ao, .int (nI i)] ++ st) [] g') : z_J Z mlaw R k n Q 998 [.ref Z.1, .ref a1, .ref a6, .ref ao, .int (nI i)] [] g := by
  obtain ⟨σ, ad, am, th, f, rfl, rfl, H1, H2, H3⟩ := H
  obtain ⟨r1, r2⟩ := hRL
  have hb9 := fb_need σ (Z.2.2.1 (i + 1)) (Z.2.2.1 (i + 2))
  have cL := c_L_need (Z := Z) (h := g) (d := (Z.2.2.1 (i + 1))) (k := (Z.2.2.1 (i + 2))) H1 H3
  have cM : ∀ h1, z_mod h1 am th σ → z_J Z mX6_need (zR 3 72 0 0) 0 0 (z_resm h1 am (f_need σ (Z.2.2.1 (i + 1)) (Z.2.2.1 (i + 2)))) 0 [.ref (am 600), .int (Z.2.2.1 (i + 1)), .int (Z.2.2.1 (i + 2))] [] h1 := fun h1 H => c_X6_need H
  generalize f_need σ (Z.2.2.1 (i + 1)) (Z.2.2.1 (i + 2)) = a at hb9 cL cM
  refine ilaw_998 rfl ?_
  refine ilaw_1004 (j := i + 1) (nI_add i 1) (by omega) (by omega) ?_
  refine ilaw_1005 rfl ?_
  refine ilaw_1010 (j := i + 2) (nI_add i 2) (by omega) (by omega) ?_
  refine ilaw_1011 rfl ?_
  refine ilaw_1012 (R' := zR 9 146 2 12) rfl rfl ⟨Nat.le_trans (by decide) r1, Nat.le_trans (by decide) r2, by show k + 2 ≤ R.cells; omega, by show n + 12 ≤ R.slots; omega⟩ cL (fun v h' w => ?_) (fun e h' w => by cases w.1)
  obtain ⟨w1, w2, ⟨ad', w3, w4⟩, f', w5, w6⟩ := w
  cases w1
  obtain ⟨g1, rfl⟩ : ∃ q, q = h' := ⟨_, rfl⟩
  have H2' := H2.kept (h' := g1) (fun x a b => w2 x (by omega) (by omega))
  obtain ⟨fs, ho⟩ := H2'.obj
  refine ilaw_1015 rfl ?_
  refine ilaw_1023 (j := i + 1) (nI_add i 1) (by omega) (by omega) ?_
  refine ilaw_1024 rfl ?_
  refine ilaw_1029 (j := i + 2) (nI_add i 2) (by omega) (by omega) ?_
  refine ilaw_1030 (R' := zR 3 72 0 0) rfl rfl ho ⟨Nat.le_trans (by decide) r1, Nat.le_trans (by decide) r2, by show k + 2 + 0 ≤ R.cells; omega, by show n + 12 + 0 ≤ R.slots; omega⟩ (cM _ H2') (fun v h' y => ?_) (fun e h' y => by cases y.1)
  obtain ⟨y1, y2, y3⟩ := y
  cases y1
  obtain ⟨g2, rfl⟩ : ∃ q, q = h' := ⟨_, rfl⟩
  obtain ⟨fs2, ho2⟩ := y3.obj
  have INV : z_inv Z g2 (ad 1) (am 600) ao := ⟨_, ad', am, _, f', w3, rfl, w4.hi (fun x hx => y2 x (by omega)), y3, (y2 700 (by omega)).trans w5⟩
  refine ilaw_1033 rfl ?_
  refine ilaw_1036 (R' := zR 0 0 0 0) rfl rfl ho2 ⟨Nat.le_trans (by decide) r1, Nat.le_trans (by decide) r2, by show k + 2 + 0 + 0 ≤ R.cells; omega, by show n + 12 + 0 + 0 ≤ R.slots; omega⟩ (c_X6_thrown y3) (z_qr ?_) z_qx
  refine ilaw_1039 rfl ?_
  refine ilaw_1041 (fun c => ?_) (fun c => absurd rfl c)
  refine ilaw_1046 rfl ?_
  refine ilaw_1048 (fun c => ?_) (fun c => ?_)
  · refine ilaw_1063 rfl ?_
    refine z_J.widen (k + 26) (n + 208) (by show k + 2 + 0 + 0 ≤ _; omega) (by show n + 12 + 0 + 0 ≤ _; omega) ?_
    exact GO g2 [_, _] INV
  · have a0 := n_e0 c (by omega)
    refine ilaw_1051 rfl ?_
    refine ilaw_1053 (r := 700) (j := 0) (N := 1) ((y2 700 (by omega)).trans w5) rfl (by omega) (by omega) ?_
    refine ilaw_1054 rfl ?_
    refine ilaw_1057 ?_
    refine ilaw_1058 (fun c => ?_) (fun c => absurd ((lg_cmp_eq _ _).mpr (w6 a0)) c)
    refine ilaw_1063 rfl ?_
    refine z_J.widen (k + 26) (n + 208) (by show k + 2 + 0 + 0 ≤ _; omega) (by show n + 12 + 0 + 0 ≤ _; omega) ?_
    exact GO g2 [_, _] INV
theorem k_demand (H : z_inv Z g a1 a6 ao) (hi : i + 6 ≤ Z.2.1) (hL : Z.2.1 < 100000) (hRL : z_RL R) (hk : k + 26 ≤ R.cells) (hn : n + 208 ≤ R.slots) (GO : ∀ (g' : zH) (st : List Value), z_inv Z g' a1 a6 ao → z_J Z mlaw R (k + 26) (n + 208) Q 1462 ([.ref Z.1, .ref a1, .ref a6, .ref ao, .int (nI i)] ++ st) [] g') : z_J Z mlaw R k n Q 1066 [.ref Z.1, .ref a1, .ref a6, .ref ao, .int (nI i)] [] g := by
  obtain ⟨σ, ad, am, th, f, rfl, rfl, H1, H2, H3⟩ := H
  obtain ⟨r1, r2⟩ := hRL
  have hb9 := fb_demand σ (Z.2.2.1 (i + 1)) (Z.2.2.1 (i + 2))
  have cL := c_L_demand (Z := Z) (h := g) (d := (Z.2.2.1 (i + 1))) (k := (Z.2.2.1 (i + 2))) H1 H3
  have cM : ∀ h1, z_mod h1 am th σ → z_J Z mX6_demand (zR 3 72 0 0) 0 0 (z_resm h1 am (f_demand σ (Z.2.2.1 (i + 1)) (Z.2.2.1 (i + 2)))) 0 [.ref (am 600), .int (Z.2.2.1 (i + 1)), .int (Z.2.2.1 (i + 2))] [] h1 := fun h1 H => c_X6_demand H
  generalize f_demand σ (Z.2.2.1 (i + 1)) (Z.2.2.1 (i + 2)) = a at hb9 cL cM
  refine ilaw_1066 rfl ?_
  refine ilaw_1072 (j := i + 1) (nI_add i 1) (by omega) (by omega) ?_
  refine ilaw_1073 rfl ?_
  refine ilaw_1078 (j := i + 2) (nI_add i 2) (by omega) (by omega) ?_
  refine ilaw_1079 rfl ?_
  refine ilaw_1080 (R' := zR 9 146 2 12) rfl rfl ⟨Nat.le_trans (by decide) r1, Nat.le_trans (by decide) r2, by show k + 2 ≤ R.cells; omega, by show n + 12 ≤ R.slots; omega⟩ cL (fun v h' w => ?_) (fun e h' w => by cases w.1)
  obtain ⟨w1, w2, ⟨ad', w3, w4⟩, f', w5, w6⟩ := w
  cases w1
  obtain ⟨g1, rfl⟩ : ∃ q, q = h' := ⟨_, rfl⟩
  have H2' := H2.kept (h' := g1) (fun x a b => w2 x (by omega) (by omega))
  obtain ⟨fs, ho⟩ := H2'.obj
  refine ilaw_1083 rfl ?_
  refine ilaw_1091 (j := i + 1) (nI_add i 1) (by omega) (by omega) ?_
  refine ilaw_1092 rfl ?_
  refine ilaw_1097 (j := i + 2) (nI_add i 2) (by omega) (by omega) ?_
  refine ilaw_1098 (R' := zR 3 72 0 0) rfl rfl ho ⟨Nat.le_trans (by decide) r1, Nat.le_trans (by decide) r2, by show k + 2 + 0 ≤ R.cells; omega, by show n + 12 + 0 ≤ R.slots; omega⟩ (cM _ H2') (fun v h' y => ?_) (fun e h' y => by cases y.1)
  obtain ⟨y1, y2, y3⟩ := y
  cases y1
  obtain ⟨g2, rfl⟩ : ∃ q, q = h' := ⟨_, rfl⟩
  obtain ⟨fs2, ho2⟩ := y3.obj
  have INV : z_inv Z g2 (ad 1) (am 600) ao := ⟨_, ad', am, _, f', w3, rfl, w4.hi (fun x hx => y2 x (by omega)), y3, (y2 700 (by omega)).trans w5⟩
  refine ilaw_1101 rfl ?_
  refine ilaw_1104 (R' := zR 0 0 0 0) rfl rfl ho2 ⟨Nat.le_trans (by decide) r1, Nat.le_trans (by decide) r2, by show k + 2 + 0 + 0 ≤ R.cells; omega, by show n + 12 + 0 + 0 ≤ R.slots; omega⟩ (c_X6_thrown y3) (z_qr ?_) z_qx
  refine ilaw_1107 rfl ?_
  refine ilaw_1109 (fun c => ?_) (fun c => absurd rfl c)
  refine ilaw_1114 rfl ?_
  refine ilaw_1116 (fun c => ?_) (fun c => ?_)
  · refine ilaw_1131 rfl ?_
    refine z_J.widen (k + 26) (n + 208) (by show k + 2 + 0 + 0 ≤ _; omega) (by show n + 12 + 0 + 0 ≤ _; omega) ?_
    exact GO g2 [_, _] INV
  · have a0 := n_e0 c (by omega)
    refine ilaw_1119 rfl ?_
    refine ilaw_1121 (r := 700) (j := 0) (N := 1) ((y2 700 (by omega)).trans w5) rfl (by omega) (by omega) ?_
    refine ilaw_1122 rfl ?_
    refine ilaw_1125 ?_
    refine ilaw_1126 (fun c => ?_) (fun c => absurd ((lg_cmp_eq _ _).mpr (w6 a0)) c)
    refine ilaw_1131 rfl ?_
    refine z_J.widen (k + 26) (n + 208) (by show k + 2 + 0 + 0 ≤ _; omega) (by show n + 12 + 0 + 0 ≤ _; omega) ?_
    exact GO g2 [_, _] INV
theorem k_gets (H : z_inv Z g a1 a6 ao) (hi : i + 6 ≤ Z.2.1) (hL : Z.2.1 < 100000) (hRL : z_RL R) (hk : k + 26 ≤ R.cells) (hn : n + 208 ≤ R.slots) (GO : ∀ (g' : zH) (st : List Value), z_inv Z g' a1 a6 ao → z_J Z mlaw R (k + 26) (n + 208) Q 1462 ([.ref Z.1, .ref a1, .ref a6, .ref ao, .int (nI i)] ++ st) [] g') : z_J Z mlaw R k n Q 1134 [.ref Z.1, .ref a1, .ref a6, .ref ao, .int (nI i)] [] g := by
  obtain ⟨σ, ad, am, th, f, rfl, rfl, H1, H2, H3⟩ := H
  obtain ⟨r1, r2⟩ := hRL
  have hb9 := fb_gets σ (Z.2.2.1 (i + 1)) (Z.2.2.1 (i + 2))
  have cL := c_L_gets (Z := Z) (h := g) (d := (Z.2.2.1 (i + 1))) (k := (Z.2.2.1 (i + 2))) H1 H3
  have cM : ∀ h1, z_mod h1 am th σ → z_J Z mX6_gets (zR 3 74 0 0) 0 0 (z_resm h1 am (f_gets σ (Z.2.2.1 (i + 1)) (Z.2.2.1 (i + 2)))) 0 [.ref (am 600), .int (Z.2.2.1 (i + 1)), .int (Z.2.2.1 (i + 2))] [] h1 := fun h1 H => c_X6_gets H
  generalize f_gets σ (Z.2.2.1 (i + 1)) (Z.2.2.1 (i + 2)) = a at hb9 cL cM
  refine ilaw_1134 rfl ?_
  refine ilaw_1140 (j := i + 1) (nI_add i 1) (by omega) (by omega) ?_
  refine ilaw_1141 rfl ?_
  refine ilaw_1146 (j := i + 2) (nI_add i 2) (by omega) (by omega) ?_
  refine ilaw_1147 rfl ?_
  refine ilaw_1148 (R' := zR 9 157 2 12) rfl rfl ⟨Nat.le_trans (by decide) r1, Nat.le_trans (by decide) r2, by show k + 2 ≤ R.cells; omega, by show n + 12 ≤ R.slots; omega⟩ cL (fun v h' w => ?_) (fun e h' w => by cases w.1)
  obtain ⟨w1, w2, ⟨ad', w3, w4⟩, f', w5, w6⟩ := w
  cases w1
  obtain ⟨g1, rfl⟩ : ∃ q, q = h' := ⟨_, rfl⟩
  have H2' := H2.kept (h' := g1) (fun x a b => w2 x (by omega) (by omega))
  obtain ⟨fs, ho⟩ := H2'.obj
  refine ilaw_1151 rfl ?_
  refine ilaw_1159 (j := i + 1) (nI_add i 1) (by omega) (by omega) ?_
  refine ilaw_1160 rfl ?_
  refine ilaw_1165 (j := i + 2) (nI_add i 2) (by omega) (by omega) ?_
  refine ilaw_1166 (R' := zR 3 74 0 0) rfl rfl ho ⟨Nat.le_trans (by decide) r1, Nat.le_trans (by decide) r2, by show k + 2 + 0 ≤ R.cells; omega, by show n + 12 + 0 ≤ R.slots; omega⟩ (cM _ H2') (fun v h' y => ?_) (fun e h' y => by cases y.1)
  obtain ⟨y1, y2, y3⟩ := y
  cases y1
  obtain ⟨g2, rfl⟩ : ∃ q, q = h' := ⟨_, rfl⟩
  obtain ⟨fs2, ho2⟩ := y3.obj
  have INV : z_inv Z g2 (ad 1) (am 600) ao := ⟨_, ad', am, _, f', w3, rfl, w4.hi (fun x hx => y2 x (by omega)), y3, (y2 700 (by omega)).trans w5⟩
  refine ilaw_1169 rfl ?_
  refine ilaw_1172 (R' := zR 0 0 0 0) rfl rfl ho2 ⟨Nat.le_trans (by decide) r1, Nat.le_trans (by decide) r2, by show k + 2 + 0 + 0 ≤ R.cells; omega, by show n + 12 + 0 + 0 ≤ R.slots; omega⟩ (c_X6_thrown y3) (z_qr ?_) z_qx
  refine ilaw_1175 rfl ?_
  refine ilaw_1177 (fun c => ?_) (fun c => absurd rfl c)
  refine ilaw_1182 rfl ?_
  refine ilaw_1184 (fun c => ?_) (fun c => ?_)
  · refine ilaw_1199 rfl ?_
    refine z_J.widen (k + 26) (n + 208) (by show k + 2 + 0 + 0 ≤ _; omega) (by show n + 12 + 0 + 0 ≤ _; omega) ?_
    exact GO g2 [_, _] INV
  · have a0 := n_e0 c (by omega)
    refine ilaw_1187 rfl ?_
    refine ilaw_1189 (r := 700) (j := 0) (N := 1) ((y2 700 (by omega)).trans w5) rfl (by omega) (by omega) ?_
    refine ilaw_1190 rfl ?_
    refine ilaw_1193 ?_
    refine ilaw_1194 (fun c => ?_) (fun c => absurd ((lg_cmp_eq _ _).mpr (w6 a0)) c)
    refine ilaw_1199 rfl ?_
    refine z_J.widen (k + 26) (n + 208) (by show k + 2 + 0 + 0 ≤ _; omega) (by show n + 12 + 0 + 0 ≤ _; omega) ?_
    exact GO g2 [_, _] INV
theorem k_lack (H : z_inv Z g a1 a6 ao) (hi : i + 6 ≤ Z.2.1) (hL : Z.2.1 < 100000) (hRL : z_RL R) (hk : k + 26 ≤ R.cells) (hn : n + 208 ≤ R.slots) (GO : ∀ (g' : zH) (st : List Value), z_inv Z g' a1 a6 ao → z_J Z mlaw R (k + 26) (n + 208) Q 1462 ([.ref Z.1, .ref a1, .ref a6, .ref ao, .int (nI i)] ++ st) [] g') : z_J Z mlaw R k n Q 1202 [.ref Z.1, .ref a1, .ref a6, .ref ao, .int (nI i)] [] g := by
  obtain ⟨σ, ad, am, th, f, rfl, rfl, H1, H2, H3⟩ := H
  obtain ⟨r1, r2⟩ := hRL
  have hb9 := fb_lack σ (Z.2.2.1 (i + 1))
  have cL := c_L_lack (Z := Z) (h := g) (d := (Z.2.2.1 (i + 1))) H1 H3
  have cM : ∀ h1, z_mod h1 am th σ → z_J Z mX6_lack (zR 4 98 0 0) 0 0 (z_resm h1 am (f_lack σ (Z.2.2.1 (i + 1)))) 0 [.ref (am 600), .int (Z.2.2.1 (i + 1))] [] h1 := fun h1 H => c_X6_lack H
  generalize f_lack σ (Z.2.2.1 (i + 1)) = a at hb9 cL cM
  refine ilaw_1202 rfl ?_
  refine ilaw_1208 (j := i + 1) (nI_add i 1) (by omega) (by omega) ?_
  refine ilaw_1209 rfl ?_
  refine ilaw_1210 (R' := zR 9 156 1 6) rfl rfl ⟨Nat.le_trans (by decide) r1, Nat.le_trans (by decide) r2, by show k + 1 ≤ R.cells; omega, by show n + 6 ≤ R.slots; omega⟩ cL (fun v h' w => ?_) (fun e h' w => by cases w.1)
  obtain ⟨w1, w2, ⟨ad', w3, w4⟩, f', w5, w6⟩ := w
  cases w1
  obtain ⟨g1, rfl⟩ : ∃ q, q = h' := ⟨_, rfl⟩
  have H2' := H2.kept (h' := g1) (fun x a b => w2 x (by omega) (by omega))
  obtain ⟨fs, ho⟩ := H2'.obj
  refine ilaw_1213 rfl ?_
  refine ilaw_1221 (j := i + 1) (nI_add i 1) (by omega) (by omega) ?_
  refine ilaw_1222 (R' := zR 4 98 0 0) rfl rfl ho ⟨Nat.le_trans (by decide) r1, Nat.le_trans (by decide) r2, by show k + 1 + 0 ≤ R.cells; omega, by show n + 6 + 0 ≤ R.slots; omega⟩ (cM _ H2') (fun v h' y => ?_) (fun e h' y => by cases y.1)
  obtain ⟨y1, y2, y3⟩ := y
  cases y1
  obtain ⟨g2, rfl⟩ : ∃ q, q = h' := ⟨_, rfl⟩
  obtain ⟨fs2, ho2⟩ := y3.obj
  have INV : z_inv Z g2 (ad 1) (am 600) ao := ⟨_, ad', am, _, f', w3, rfl, w4.hi (fun x hx => y2 x (by omega)), y3, (y2 700 (by omega)).trans w5⟩
  refine ilaw_1225 rfl ?_
  refine ilaw_1228 (R' := zR 0 0 0 0) rfl rfl ho2 ⟨Nat.le_trans (by decide) r1, Nat.le_trans (by decide) r2, by show k + 1 + 0 + 0 ≤ R.cells; omega, by show n + 6 + 0 + 0 ≤ R.slots; omega⟩ (c_X6_thrown y3) (z_qr ?_) z_qx
  refine ilaw_1231 rfl ?_
  refine ilaw_1233 (fun c => ?_) (fun c => absurd rfl c)
  refine ilaw_1238 rfl ?_
  refine ilaw_1240 (fun c => ?_) (fun c => ?_)
  · refine ilaw_1255 rfl ?_
    refine z_J.widen (k + 26) (n + 208) (by show k + 1 + 0 + 0 ≤ _; omega) (by show n + 6 + 0 + 0 ≤ _; omega) ?_
    exact GO g2 [_, _] INV
  · have a0 := n_e0 c (by omega)
    refine ilaw_1243 rfl ?_
    refine ilaw_1245 (r := 700) (j := 0) (N := 1) ((y2 700 (by omega)).trans w5) rfl (by omega) (by omega) ?_
    refine ilaw_1246 rfl ?_
    refine ilaw_1249 ?_
    refine ilaw_1250 (fun c => ?_) (fun c => absurd ((lg_cmp_eq _ _).mpr (w6 a0)) c)
    refine ilaw_1255 rfl ?_
    refine z_J.widen (k + 26) (n + 208) (by show k + 1 + 0 + 0 ≤ _; omega) (by show n + 6 + 0 + 0 ≤ _; omega) ?_
    exact GO g2 [_, _] INV
theorem k_lackBySets (H : z_inv Z g a1 a6 ao) (hi : i + 6 ≤ Z.2.1) (hL : Z.2.1 < 100000) (hRL : z_RL R) (hk : k + 26 ≤ R.cells) (hn : n + 208 ≤ R.slots) (GO : ∀ (g' : zH) (st : List Value), z_inv Z g' a1 a6 ao → z_J Z mlaw R (k + 26) (n + 208) Q 1462 ([.ref Z.1, .ref a1, .ref a6, .ref ao, .int (nI i)] ++ st) [] g') : z_J Z mlaw R k n Q 1258 [.ref Z.1, .ref a1, .ref a6, .ref ao, .int (nI i)] [] g := by
  obtain ⟨σ, ad, am, th, f, rfl, rfl, H1, H2, H3⟩ := H
  obtain ⟨r1, r2⟩ := hRL
  have hb9 := fb_lackBySets σ (Z.2.2.1 (i + 1))
  have cL := c_L_lackBySets (Z := Z) (h := g) (d := (Z.2.2.1 (i + 1))) H1 H3
  have cM : ∀ h1, z_mod h1 am th σ → z_J Z mX6_lackBySets (zR 4 98 0 0) 0 0 (z_resm h1 am (f_lackBySets σ (Z.2.2.1 (i + 1)))) 0 [.ref (am 600), .int (Z.2.2.1 (i + 1))] [] h1 := fun h1 H => c_X6_lackBySets H
  generalize f_lackBySets σ (Z.2.2.1 (i + 1)) = a at hb9 cL cM
  refine ilaw_1258 rfl ?_
  refine ilaw_1264 (j := i + 1) (nI_add i 1) (by omega) (by omega) ?_
  refine ilaw_1265 rfl ?_
  refine ilaw_1266 (R' := zR 9 147 2 12) rfl rfl ⟨Nat.le_trans (by decide) r1, Nat.le_trans (by decide) r2, by show k + 2 ≤ R.cells; omega, by show n + 12 ≤ R.slots; omega⟩ cL (fun v h' w => ?_) (fun e h' w => by cases w.1)
  obtain ⟨w1, w2, ⟨ad', w3, w4⟩, f', w5, w6⟩ := w
  cases w1
  obtain ⟨g1, rfl⟩ : ∃ q, q = h' := ⟨_, rfl⟩
  have H2' := H2.kept (h' := g1) (fun x a b => w2 x (by omega) (by omega))
  obtain ⟨fs, ho⟩ := H2'.obj
  refine ilaw_1269 rfl ?_
  refine ilaw_1277 (j := i + 1) (nI_add i 1) (by omega) (by omega) ?_
  refine ilaw_1278 (R' := zR 4 98 0 0) rfl rfl ho ⟨Nat.le_trans (by decide) r1, Nat.le_trans (by decide) r2, by show k + 2 + 0 ≤ R.cells; omega, by show n + 12 + 0 ≤ R.slots; omega⟩ (cM _ H2') (fun v h' y => ?_) (fun e h' y => by cases y.1)
  obtain ⟨y1, y2, y3⟩ := y
  cases y1
  obtain ⟨g2, rfl⟩ : ∃ q, q = h' := ⟨_, rfl⟩
  obtain ⟨fs2, ho2⟩ := y3.obj
  have INV : z_inv Z g2 (ad 1) (am 600) ao := ⟨_, ad', am, _, f', w3, rfl, w4.hi (fun x hx => y2 x (by omega)), y3, (y2 700 (by omega)).trans w5⟩
  refine ilaw_1281 rfl ?_
  refine ilaw_1284 (R' := zR 0 0 0 0) rfl rfl ho2 ⟨Nat.le_trans (by decide) r1, Nat.le_trans (by decide) r2, by show k + 2 + 0 + 0 ≤ R.cells; omega, by show n + 12 + 0 + 0 ≤ R.slots; omega⟩ (c_X6_thrown y3) (z_qr ?_) z_qx
  refine ilaw_1287 rfl ?_
  refine ilaw_1289 (fun c => ?_) (fun c => absurd rfl c)
  refine ilaw_1294 rfl ?_
  refine ilaw_1296 (fun c => ?_) (fun c => ?_)
  · refine ilaw_1311 rfl ?_
    refine z_J.widen (k + 26) (n + 208) (by show k + 2 + 0 + 0 ≤ _; omega) (by show n + 12 + 0 + 0 ≤ _; omega) ?_
    exact GO g2 [_, _] INV
  · have a0 := n_e0 c (by omega)
    refine ilaw_1299 rfl ?_
    refine ilaw_1301 (r := 700) (j := 0) (N := 1) ((y2 700 (by omega)).trans w5) rfl (by omega) (by omega) ?_
    refine ilaw_1302 rfl ?_
    refine ilaw_1305 ?_
    refine ilaw_1306 (fun c => ?_) (fun c => absurd ((lg_cmp_eq _ _).mpr (w6 a0)) c)
    refine ilaw_1311 rfl ?_
    refine z_J.widen (k + 26) (n + 208) (by show k + 2 + 0 + 0 ≤ _; omega) (by show n + 12 + 0 + 0 ≤ _; omega) ?_
    exact GO g2 [_, _] INV
theorem k_spare (H : z_inv Z g a1 a6 ao) (hi : i + 6 ≤ Z.2.1) (hL : Z.2.1 < 100000) (hRL : z_RL R) (hk : k + 26 ≤ R.cells) (hn : n + 208 ≤ R.slots) (GO : ∀ (g' : zH) (st : List Value), z_inv Z g' a1 a6 ao → z_J Z mlaw R (k + 26) (n + 208) Q 1462 ([.ref Z.1, .ref a1, .ref a6, .ref ao, .int (nI i)] ++ st) [] g') : z_J Z mlaw R k n Q 1314 [.ref Z.1, .ref a1, .ref a6, .ref ao, .int (nI i)] [] g := by
  obtain ⟨σ, ad, am, th, f, rfl, rfl, H1, H2, H3⟩ := H
  obtain ⟨r1, r2⟩ := hRL
  have hb9 := fb_spare σ (Z.2.2.1 (i + 1)) (Z.2.2.1 (i + 2)) (Z.2.2.1 (i + 3))
  have cL := c_L_spare (Z := Z) (h := g) (d := (Z.2.2.1 (i + 1))) (p := (Z.2.2.1 (i + 2))) (v := (Z.2.2.1 (i + 3))) H1 H3
  have cM : ∀ h1, z_mod h1 am th σ → z_J Z mX6_spare (zR 3 74 0 0) 0 0 (z_resm h1 am (f_spare σ (Z.2.2.1 (i + 1)) (Z.2.2.1 (i + 2)) (Z.2.2.1 (i + 3)))) 0 [.ref (am 600), .int (Z.2.2.1 (i + 1)), .int (Z.2.2.1 (i + 2)), .int (Z.2.2.1 (i + 3))] [] h1 := fun h1 H => c_X6_spare H
  generalize f_spare σ (Z.2.2.1 (i + 1)) (Z.2.2.1 (i + 2)) (Z.2.2.1 (i + 3)) = a at hb9 cL cM
  refine ilaw_1314 rfl ?_
  refine ilaw_1320 (j := i + 1) (nI_add i 1) (by omega) (by omega) ?_
  refine ilaw_1321 rfl ?_
  refine ilaw_1326 (j := i + 2) (nI_add i 2) (by omega) (by omega) ?_
  refine ilaw_1327 rfl ?_
  refine ilaw_1332 (j := i + 3) (nI_add i 3) (by omega) (by omega) ?_
  refine ilaw_1333 rfl ?_
  refine ilaw_1334 (R' := zR 9 158 3 18) rfl rfl ⟨Nat.le_trans (by decide) r1, Nat.le_trans (by decide) r2, by show k + 3 ≤ R.cells; omega, by show n + 18 ≤ R.slots; omega⟩ cL (fun v h' w => ?_) (fun e h' w => by cases w.1)
  obtain ⟨w1, w2, ⟨ad', w3, w4⟩, f', w5, w6⟩ := w
  cases w1
  obtain ⟨g1, rfl⟩ : ∃ q, q = h' := ⟨_, rfl⟩
  have H2' := H2.kept (h' := g1) (fun x a b => w2 x (by omega) (by omega))
  obtain ⟨fs, ho⟩ := H2'.obj
  refine ilaw_1337 rfl ?_
  refine ilaw_1345 (j := i + 1) (nI_add i 1) (by omega) (by omega) ?_
  refine ilaw_1346 rfl ?_
  refine ilaw_1351 (j := i + 2) (nI_add i 2) (by omega) (by omega) ?_
  refine ilaw_1352 rfl ?_
  refine ilaw_1357 (j := i + 3) (nI_add i 3) (by omega) (by omega) ?_
  refine ilaw_1358 (R' := zR 3 74 0 0) rfl rfl ho ⟨Nat.le_trans (by decide) r1, Nat.le_trans (by decide) r2, by show k + 3 + 0 ≤ R.cells; omega, by show n + 18 + 0 ≤ R.slots; omega⟩ (cM _ H2') (fun v h' y => ?_) (fun e h' y => by cases y.1)
  obtain ⟨y1, y2, y3⟩ := y
  cases y1
  obtain ⟨g2, rfl⟩ : ∃ q, q = h' := ⟨_, rfl⟩
  obtain ⟨fs2, ho2⟩ := y3.obj
  have INV : z_inv Z g2 (ad 1) (am 600) ao := ⟨_, ad', am, _, f', w3, rfl, w4.hi (fun x hx => y2 x (by omega)), y3, (y2 700 (by omega)).trans w5⟩
  refine ilaw_1361 rfl ?_
  refine ilaw_1364 (R' := zR 0 0 0 0) rfl rfl ho2 ⟨Nat.le_trans (by decide) r1, Nat.le_trans (by decide) r2, by show k + 3 + 0 + 0 ≤ R.cells; omega, by show n + 18 + 0 + 0 ≤ R.slots; omega⟩ (c_X6_thrown y3) (z_qr ?_) z_qx
  refine ilaw_1367 rfl ?_
  refine ilaw_1369 (fun c => ?_) (fun c => absurd rfl c)
  refine ilaw_1374 rfl ?_
  refine ilaw_1376 (fun c => ?_) (fun c => ?_)
  · refine ilaw_1391 rfl ?_
    refine z_J.widen (k + 26) (n + 208) (by show k + 3 + 0 + 0 ≤ _; omega) (by show n + 18 + 0 + 0 ≤ _; omega) ?_
    exact GO g2 [_, _] INV
  · have a0 := n_e0 c (by omega)
    refine ilaw_1379 rfl ?_
    refine ilaw_1381 (r := 700) (j := 0) (N := 1) ((y2 700 (by omega)).trans w5) rfl (by omega) (by omega) ?_
    refine ilaw_1382 rfl ?_
    refine ilaw_1385 ?_
    refine ilaw_1386 (fun c => ?_) (fun c => absurd ((lg_cmp_eq _ _).mpr (w6 a0)) c)
    refine ilaw_1391 rfl ?_
    refine z_J.widen (k + 26) (n + 208) (by show k + 3 + 0 + 0 ≤ _; omega) (by show n + 18 + 0 + 0 ≤ _; omega) ?_
    exact GO g2 [_, _] INV
theorem k_most (H : z_inv Z g a1 a6 ao) (hi : i + 6 ≤ Z.2.1) (hL : Z.2.1 < 100000) (hRL : z_RL R) (hk : k + 26 ≤ R.cells) (hn : n + 208 ≤ R.slots) (GO : ∀ (g' : zH) (st : List Value), z_inv Z g' a1 a6 ao → z_J Z mlaw R (k + 26) (n + 208) Q 1462 ([.ref Z.1, .ref a1, .ref a6, .ref ao, .int (nI i)] ++ st) [] g') : z_J Z mlaw R k n Q 1394 [.ref Z.1, .ref a1, .ref a6, .ref ao, .int (nI i)] [] g := by
  obtain ⟨σ, ad, am, th, f, rfl, rfl, H1, H2, H3⟩ := H
  obtain ⟨r1, r2⟩ := hRL
  have hb9 := fb_most σ (Z.2.2.1 (i + 1)) (Z.2.2.1 (i + 2))
  have cL := c_L_most (Z := Z) (h := g) (p := (Z.2.2.1 (i + 1))) (m := (Z.2.2.1 (i + 2))) H1 H3
  have cM : ∀ h1, z_mod h1 am th σ → z_J Z mX6_most (zR 2 50 0 0) 0 0 (z_resm h1 am (f_most σ (Z.2.2.1 (i + 1)) (Z.2.2.1 (i + 2)))) 0 [.ref (am 600), .int (Z.2.2.1 (i + 1)), .int (Z.2.2.1 (i + 2))] [] h1 := fun h1 H => c_X6_most H
  generalize f_most σ (Z.2.2.1 (i + 1)) (Z.2.2.1 (i + 2)) = a at hb9 cL cM
  refine ilaw_1394 rfl ?_
  refine ilaw_1400 (j := i + 1) (nI_add i 1) (by omega) (by omega) ?_
  refine ilaw_1401 rfl ?_
  refine ilaw_1406 (j := i + 2) (nI_add i 2) (by omega) (by omega) ?_
  refine ilaw_1407 rfl ?_
  refine ilaw_1408 (R' := zR 8 128 2 12) rfl rfl ⟨Nat.le_trans (by decide) r1, Nat.le_trans (by decide) r2, by show k + 2 ≤ R.cells; omega, by show n + 12 ≤ R.slots; omega⟩ cL (fun v h' w => ?_) (fun e h' w => by cases w.1)
  obtain ⟨w1, w2, ⟨ad', w3, w4⟩, f', w5, w6⟩ := w
  cases w1
  obtain ⟨g1, rfl⟩ : ∃ q, q = h' := ⟨_, rfl⟩
  have H2' := H2.kept (h' := g1) (fun x a b => w2 x (by omega) (by omega))
  obtain ⟨fs, ho⟩ := H2'.obj
  refine ilaw_1411 rfl ?_
  refine ilaw_1419 (j := i + 1) (nI_add i 1) (by omega) (by omega) ?_
  refine ilaw_1420 rfl ?_
  refine ilaw_1425 (j := i + 2) (nI_add i 2) (by omega) (by omega) ?_
  refine ilaw_1426 (R' := zR 2 50 0 0) rfl rfl ho ⟨Nat.le_trans (by decide) r1, Nat.le_trans (by decide) r2, by show k + 2 + 0 ≤ R.cells; omega, by show n + 12 + 0 ≤ R.slots; omega⟩ (cM _ H2') (fun v h' y => ?_) (fun e h' y => by cases y.1)
  obtain ⟨y1, y2, y3⟩ := y
  cases y1
  obtain ⟨g2, rfl⟩ : ∃ q, q = h' := ⟨_, rfl⟩
  obtain ⟨fs2, ho2⟩ := y3.obj
  have INV : z_inv Z g2 (ad 1) (am 600) ao := ⟨_, ad', am, _, f', w3, rfl, w4.hi (fun x hx => y2 x (by omega)), y3, (y2 700 (by omega)).trans w5⟩
  refine ilaw_1429 rfl ?_
  refine ilaw_1432 (R' := zR 0 0 0 0) rfl rfl ho2 ⟨Nat.le_trans (by decide) r1, Nat.le_trans (by decide) r2, by show k + 2 + 0 + 0 ≤ R.cells; omega, by show n + 12 + 0 + 0 ≤ R.slots; omega⟩ (c_X6_thrown y3) (z_qr ?_) z_qx
  refine ilaw_1435 rfl ?_
  refine ilaw_1437 (fun c => ?_) (fun c => absurd rfl c)
  refine ilaw_1442 rfl ?_
  refine ilaw_1444 (fun c => ?_) (fun c => ?_)
  · refine ilaw_1459 rfl ?_
    refine z_J.widen (k + 26) (n + 208) (by show k + 2 + 0 + 0 ≤ _; omega) (by show n + 12 + 0 + 0 ≤ _; omega) ?_
    exact GO g2 [_, _] INV
  · have a0 := n_e0 c (by omega)
    refine ilaw_1447 rfl ?_
    refine ilaw_1449 (r := 700) (j := 0) (N := 1) ((y2 700 (by omega)).trans w5) rfl (by omega) (by omega) ?_
    refine ilaw_1450 rfl ?_
    refine ilaw_1453 ?_
    refine ilaw_1454 (fun c => ?_) (fun c => absurd ((lg_cmp_eq _ _).mpr (w6 a0)) c)
    refine ilaw_1459 rfl ?_
    refine z_J.widen (k + 26) (n + 208) (by show k + 2 + 0 + 0 ≤ _; omega) (by show n + 12 + 0 + 0 ≤ _; omega) ?_
    exact GO g2 [_, _] INV
end ZLaw2
