/-! ===== rows that the law of this claim wants more ===== -/
section ZRows
variable {M : zM} {Z : zZ} {R : Room} {k n : Nat} {Q : zO → zH → Prop} {pc nx : Nat} {ls st : List Value} {h : zH}
theorem z_irem {x y : Int32} (hd : decode M.2.1 pc = .ok (.irem, 1)) (hn : pc + 1 = nx) (hy : ¬ y = 0) (g : z_J Z M R k n Q nx ls (.int (x - x / y * y) :: st) h) : z_J Z M R k n Q pc ls (.int y :: .int x :: st) h := by
  intro D cA p l e s m args below meth c A H locs ws lsA X O L
  obtain ⟨hx, hb, -⟩ := id X
  subst hn
  exact lv_irem hx hb hd hy (g D cA p l e s m args below meth c A H locs ws lsA X O L)
theorem z_iushr {x y : Int32} (hd : decode M.2.1 pc = .ok (.iushr, 1)) (hn : pc + 1 = nx) (g : z_J Z M R k n Q nx ls (.int ((x.toUInt32 >>> (y.toUInt32 &&& Int32.toUInt32 31)).toInt32) :: st) h) : z_J Z M R k n Q pc ls (.int y :: .int x :: st) h := by
  intro D cA p l e s m args below meth c A H locs ws lsA X O L
  obtain ⟨hx, hb, -⟩ := id X
  subst hn
  exact lv_iushr hx hb hd rfl (g D cA p l e s m args below meth c A H locs ws lsA X O L)
theorem z_ldcI {idx : Nat} {v : Int32} (hd : decode M.2.1 pc = .ok (.ldc idx, 2)) (hn : pc + 2 = nx) (hw : Cond.constant M.1.cls idx v ∈ z_G) (g : z_J Z M R k n Q nx ls (.int v :: st) h) : z_J Z M R k n Q pc ls st h := by
  intro D cA p l e s m args below meth c A H locs ws lsA X O L
  obtain ⟨hx, hb, hr, hml, hown, hts, -⟩ := id X
  subst hn
  intro T hT XX
  obtain ⟨t, a, b⟩ := g D cA p l e s m args below meth c A H locs ws lsA X O L T hT XX
  exact ⟨t, XX.ldcInt hx hown (hts _ hw) (g := F0 m pc lsA st) rfl (by rw [hb]; exact hd) t a, b⟩
end ZRows
