/-! ===== the model: install, uninstall, runs ===== -/
theorem z_ev_frame {N : Nat} {V F E : Nat → Nat} {TO : Nat} {DA WI DA' WI' : Nat → Nat} {b : Nat} (H : z_ev N V F E TO DA WI b) (h1 : ∀ x, x < TO → DA' (b + x) = DA (b + x)) (h2 : ∀ x, x < TO → WI' (b + x) = WI (b + x)) : z_ev N V F E TO DA' WI' b := by
  obtain ⟨g1, g2, g3⟩ := H
  refine ⟨g1, g2, fun i hi => ?_⟩
  obtain ⟨q1, q2, q3, q4⟩ := g3 i hi
  have hm := ev_n_mono (E := E) hi
  have h1i : ev_n E i < TO := by split at hm <;> omega
  refine ⟨by rw [h1 _ h1i]; exact q1, by rw [h2 _ h1i]; exact q2, fun c => ?_, q4⟩
  rw [if_neg c] at hm
  have e1 := h1 (ev_n E i + 1) (by omega)
  have e2 := h2 (ev_n E i + 1) (by omega)
  rw [← Nat.add_assoc] at e1 e2
  rw [e1, e2]
  exact q3 c
theorem z_ev_install {N : Nat} {V F E : Nat → Nat} {TO : Nat} {DA WI : Nat → Nat} {b v d : Nat} (H : z_ev N V F E TO DA WI b) (hN : N < 10) (hv : 1 ≤ v ∧ v ≤ 9) (hd : d ≤ 720) : z_ev (N + 1) (nu V N v) (nu F N d) (nu E N 721) (TO + 1) (nu DA (b + TO) d) (nu WI (b + TO) v) b := by
  have H' := z_ev_frame (DA' := nu DA (b + TO) d) (WI' := nu WI (b + TO) v) H (fun x hx => nu_n (by omega)) (fun x hx => nu_n (by omega))
  obtain ⟨g1, g2, g3⟩ := H'
  have ec : ∀ i, i ≤ N → ev_n (nu E N 721) i = ev_n E i := fun i hi => ev_n_cong (fun j hj => nu_n (by omega))
  refine ⟨by omega, ?_, fun i hi => ?_⟩
  · show TO + 1 = ev_n (nu E N 721) N + (if nu E N 721 N = 721 then 1 else 2)
    rw [ec N (Nat.le_refl _), nu_s, if_pos rfl]
    omega
  · rw [ec i (by omega)]
    by_cases e : i = N
    · subst e
      rw [nu_s, nu_s, nu_s, ← g2, nu_s, nu_s]
      exact ⟨rfl, rfl, fun c => absurd rfl c, by omega⟩
    · rw [nu_n (f := V) e, nu_n (f := F) e, nu_n (f := E) e]
      exact g3 i (by omega)
theorem z_ev_uninstall {n : Nat} {V F E : Nat → Nat} {TO : Nat} {DA WI : Nat → Nat} {b d : Nat} (H : z_ev (n + 1) V F E TO DA WI b) (ho : E n = 721) (hf : F n < d) (hd : d ≤ 720) : z_ev (n + 1) V F (nu E n d) (TO + 1) (nu DA (b + TO) d) (nu WI (b + TO) 0) b := by
  have H' := z_ev_frame (DA' := nu DA (b + TO) d) (WI' := nu WI (b + TO) 0) H (fun x hx => nu_n (by omega)) (fun x hx => nu_n (by omega))
  obtain ⟨g1, g2, g3⟩ := H'
  have ec : ∀ i, i ≤ n → ev_n (nu E n d) i = ev_n E i := fun i hi => ev_n_cong (fun j hj => nu_n (by omega))
  have g2' : TO = ev_n E n + (if E n = 721 then 1 else 2) := g2
  rw [if_pos ho] at g2'
  refine ⟨g1, ?_, fun i hi => ?_⟩
  · show TO + 1 = ev_n (nu E n d) n + (if nu E n d n = 721 then 1 else 2)
    rw [ec n (Nat.le_refl _), nu_s, if_neg (by omega)]
    omega
  · rw [ec i (by omega)]
    by_cases e : i = n
    · subst e
      obtain ⟨q1, q2, q3, q4, q5, q6, q7, q8⟩ := g3 i hi
      rw [nu_s]
      refine ⟨q1, q2, fun _ => ?_, q4, q5, q6, hf, by omega⟩
      have e1 : b + ev_n E i + 1 = b + TO := by omega
      rw [e1, nu_s, nu_s]
      exact ⟨rfl, rfl⟩
    · rw [nu_n e]
      exact g3 i hi
section ZMod7
variable {Z : zZ} {h : zH} {am : Nat → Nat} {th : Nat} {σ : zSt} {HO : Nat → Int32} {E : zMs} {S : zMn} {Q : zO → zH → Prop}
theorem z_mi_tells {q N' TOx dd vv : Nat} {V' F' E' : Nat → Nat} (HI : z_mi σ HO E) (hq : q < s_nM σ * 5) (hx : TOx = E.1 q) (h20 : E.1 q < 20) (hb : dd < 1000 ∧ vv < 1000) (hev : z_ev N' V' F' E' (TOx + 1) (nu E.2.1 (20 * q + TOx) dd) (nu E.2.2 (20 * q + TOx) vv) (20 * q)) : z_mi (σ.1, σ.2.1, (nu (s_HN σ) q N', nuF (s_HV σ) q V', nuF (s_HF σ) q F', nuF (s_HE σ) q E'), s_CU σ) HO (nu E.1 q (TOx + 1), nu E.2.1 (20 * q + TOx) dd, nu E.2.2 (20 * q + TOx) vv) := by
  subst hx
  refine ⟨HI.1, HI.2.1, HI.2.2.1, fun r hr => ?_, fun r hr => ?_, fun k => ?_⟩
  · have hr : s_nM σ * 5 ≤ r := hr
    show nu (s_HN σ) q N' r = 0
    rw [nu_n (by omega)]
    exact HI.2.2.2.1 r hr
  · show z_ev (nu (s_HN σ) q N' r) (nuF (s_HV σ) q V' r) (nuF (s_HF σ) q F' r) (nuF (s_HE σ) q E' r) (nu E.1 q (E.1 q + 1) r) _ _ _
    by_cases e : r = q
    · subst e
      rw [nu_s, nuF_s, nuF_s, nuF_s, nu_s]
      exact hev
    · rw [nu_n e, nuF_n e, nuF_n e, nuF_n e, nu_n e]
      have old := HI.2.2.2.2.1 r hr
      have h20r := (z_ev_last old).2.2
      exact z_ev_frame old (fun x hx => nu_n (by omega)) (fun x hx => nu_n (by omega))
  · have := HI.2.2.2.2.2 k
    show nu E.2.1 (20 * q + E.1 q) dd k < 1000 ∧ nu E.2.2 (20 * q + E.1 q) vv k < 1000
    unfold nu
    split <;> omega
theorem z_resm_x2 {h1 : zH} (hs : z_same 600 619 h h1) (H : z_mo h1 am th σ HO E S) (HI : z_mi σ HO E) (hS : S.1 ≤ 40) (c : Nat) (v : Int32) : z_resm h am (c, v, σ) (.inl (some (.int v))) (z_u h1 600 (am 600, .inr (7, z_mfs am c (s_nR σ) (s_nM σ) S.1))) :=
  ⟨rfl, hs.u (by omega) (by omega), HO, E, S, H.thr c, HI, hS⟩
theorem c_X6_runs {m p d : Int32} (H : z_mod h am th σ) : z_J Z mX6_runs (zR 2 43 0 0) 0 0 (z_resm h am (f_runs σ m p d)) 0 [.ref (am 600), .int m, .int p, .int d] [] h := by
  obtain ⟨HO, E, S, HM, HI, hS⟩ := H
  have hn8 := HI.1.2.1.1
  unfold f_runs
  by_cases c1 : zix m (s_nM σ) = true
  rotate_left
  · rw [if_neg (fun z => c1 z.1)]
    refine iX6_runs_0 rfl ?_
    refine iX6_runs_3 (R' := zR 1 22 0 0) rfl rfl HM.1 (z_rmo rfl) (c_X6_isMachine HM hn8) (z_qr ?_) z_qx
    refine iX6_runs_6 (fun c => ?_) (fun c => ?_)
    rotate_left
    · exact absurd (zb_n0 c) c1
    · refine iX6_runs_16 rfl ?_
      refine iX6_runs_32 HM.1 rfl ?_
      refine iX6_runs_35 rfl ?_
      refine iX6_runs_36 z_u_s rfl ?_
      refine iX6_runs_39 (fun c2 => ?_) (fun c2 => ?_)
      · exact absurd c2 (by decide)
      · refine iX6_runs_42 rfl ?_
        exact iX6_runs_56 (Nat.le_of_ble_eq_true rfl) (Nat.le_of_ble_eq_true rfl) (z_resm_x HM HI hS 1 0)
  have hir := c_X6_isMachine (Z := Z) (m := m) HM hn8
  rw [c1] at hir
  by_cases cp : zix p 5 = true
  rotate_left
  · rw [if_neg (fun z => cp z.2)]
    refine iX6_runs_0 rfl ?_
    refine iX6_runs_3 (R' := zR 1 22 0 0) rfl rfl HM.1 (z_rmo rfl) (hir) (z_qr ?_) z_qx
    refine iX6_runs_6 (fun c => ?_) (fun c => ?_)
    · exact absurd c (by decide)
    refine iX6_runs_9 rfl ?_
    refine iX6_runs_10 (R' := zR 1 22 0 0) rfl rfl (z_rmo rfl) (c_X6_isProduct) (z_qr ?_) z_qx
    refine iX6_runs_13 (fun c => ?_) (fun c => ?_)
    · exact absurd (zb_n0 c) cp
    · refine iX6_runs_16 rfl ?_
      refine iX6_runs_32 HM.1 rfl ?_
      refine iX6_runs_35 rfl ?_
      refine iX6_runs_36 z_u_s rfl ?_
      refine iX6_runs_39 (fun c2 => ?_) (fun c2 => ?_)
      · exact absurd c2 (by decide)
      · refine iX6_runs_42 rfl ?_
        exact iX6_runs_56 (Nat.le_of_ble_eq_true rfl) (Nat.le_of_ble_eq_true rfl) (z_resm_x HM HI hS 1 0)
  have hip := c_X6_isProduct (Z := Z) (h := h) (p := p)
  rw [cp] at hip
  rw [if_pos ⟨c1, cp⟩]
  by_cases c3 : zin d 0 720 = true
  rotate_left
  · rw [if_neg c3]
    refine iX6_runs_0 rfl ?_
    refine iX6_runs_3 (R' := zR 1 22 0 0) rfl rfl HM.1 (z_rmo rfl) (hir) (z_qr ?_) z_qx
    refine iX6_runs_6 (fun c => ?_) (fun c => ?_)
    · exact absurd c (by decide)
    refine iX6_runs_9 rfl ?_
    refine iX6_runs_10 (R' := zR 1 22 0 0) rfl rfl (z_rmo rfl) (hip) (z_qr ?_) z_qx
    refine iX6_runs_13 (fun c => ?_) (fun c => ?_)
    rotate_left
    · exact absurd c (by decide)
    refine iX6_runs_20 rfl ?_
    refine iX6_runs_21 (R' := zR 1 22 0 0) rfl rfl (z_rmo rfl) (c_X6_isDay) (z_qr ?_) z_qx
    refine iX6_runs_24 (fun c => ?_) (fun c => ?_)
    rotate_left
    · exact absurd (zb_n0 c) c3
    · refine iX6_runs_31 rfl ?_
      refine iX6_runs_32 HM.1 rfl ?_
      refine iX6_runs_35 rfl ?_
      refine iX6_runs_36 z_u_s rfl ?_
      refine iX6_runs_39 (fun c2 => ?_) (fun c2 => ?_)
      · exact absurd c2 (by decide)
      · refine iX6_runs_42 rfl ?_
        exact iX6_runs_56 (Nat.le_of_ble_eq_true rfl) (Nat.le_of_ble_eq_true rfl) (z_resm_x HM HI hS 2 0)
  have hid := c_X6_isDay (Z := Z) (h := h) (d := d)
  rw [c3] at hid
  rw [if_pos c3]
  refine iX6_runs_0 rfl ?_
  refine iX6_runs_3 (R' := zR 1 22 0 0) rfl rfl HM.1 (z_rmo rfl) (hir) (z_qr ?_) z_qx
  refine iX6_runs_6 (fun c => ?_) (fun c => ?_)
  · exact absurd c (by decide)
  refine iX6_runs_9 rfl ?_
  refine iX6_runs_10 (R' := zR 1 22 0 0) rfl rfl (z_rmo rfl) (hip) (z_qr ?_) z_qx
  refine iX6_runs_13 (fun c => ?_) (fun c => ?_)
  rotate_left
  · exact absurd c (by decide)
  refine iX6_runs_20 rfl ?_
  refine iX6_runs_21 (R' := zR 1 22 0 0) rfl rfl (z_rmo rfl) (hid) (z_qr ?_) z_qx
  refine iX6_runs_24 (fun c => ?_) (fun c => ?_)
  · exact absurd c (by decide)
  obtain ⟨M, rfl, m1⟩ := zix_e c1
  obtain ⟨P, rfl, p1⟩ := zix_e cp
  obtain ⟨D, rfl, d1, d2⟩ := zin_e c3
  rw [zn_nI (d := M) (by omega), zn_nI (d := P) (by omega), zn_nI (d := D) (by omega)]
  refine iX6_runs_27 rfl ?_
  refine iX6_runs_32 HM.1 rfl ?_
  show z_J Z mX6_runs _ _ _ _ 35 _ _ (z_u h 600 (am 600, .inr (7, z_mfs am 0 (s_nR σ) (s_nM σ) S.1)))
  have HM1 := HM.thr 0
  refine iX6_runs_35 rfl ?_
  refine iX6_runs_36 HM1.1 rfl ?_
  refine iX6_runs_39 (fun c2 => ?_) (fun c2 => ?_)
  rotate_left
  · exact absurd (Int32.le_refl _) c2
  refine iX6_runs_46 rfl ?_
  refine iX6_runs_49 (R' := zR 0 0 0 0) rfl rfl (z_rmo rfl) (c_X6_pairOf) (z_qr ?_) z_qx
  refine iX6_runs_52 rfl ?_
  refine iX6_runs_53 (R' := zR 0 0 0 0) rfl rfl HM1.1 (z_rmo rfl) (c_X6_versionOn HM1 HI (q := M * 5 + P) (by omega) d2) (z_qr ?_) z_qx
  exact iX6_runs_56 (Nat.le_of_ble_eq_true rfl) (Nat.le_of_ble_eq_true rfl) (z_resm_x HM HI hS 0 _)
end ZMod7
