/-! ===== the law: what machines' calls answer, and what stays ===== -/
theorem fam_i {σ : zSt} {c t : Int32} (h1 : t ≠ -1) (h : zix t (s_nM σ) = false) : f_addMachine σ c t = (1, 0, σ) := by
  unfold f_addMachine
  rw [if_neg h1, if_neg (by rw [h]; decide)]
theorem fam_o {σ : zSt} {c : Int32} {O : Option Nat} (hn : s_nM σ ≤ 8) (hO : ∀ i, O = some i → i < s_nM σ) : f_addMachine σ c (n_o O) = f_addMachine1 σ c O := by
  unfold f_addMachine
  cases O with
  | none => exact if_pos rfl
  | some i =>
    have hi := hO i rfl
    have h1 : ¬ n_o (some i) = -1 := fun e => by
      have := (n_o_n1 (o := some i) (fun x hx => by cases hx; omega)).mp e
      cases this
    have e : zn (n_o (some i)) = i := zn_nI (d := i) (by omega)
    rw [if_neg h1, if_pos (show zix (n_o (some i)) (s_nM σ) = true from l_zix (v := i) hi), e]
theorem fam_r {σ : zSt} {c : Int32} {O : Option Nat} (h : zin c 1 64 = false) : f_addMachine1 σ c O = (2, 0, σ) := by
  unfold f_addMachine1
  rw [if_neg (by rw [h]; decide)]
def s_mach (σ : zSt) (C : Nat) (O : Option Nat) : zSt := (σ.1, (s_nM σ + 1, nu (s_MC σ) (s_nM σ) C, nuo (s_MH σ) (s_nM σ) O, nub (s_MA σ) (s_nM σ) false), ((fun q => if s_nM σ * 5 ≤ q then 0 else s_HN σ q), (fun q => if s_nM σ * 5 ≤ q then z_zero else s_HV σ q), (fun q => if s_nM σ * 5 ≤ q then z_zero else s_HF σ q), (fun q => if s_nM σ * 5 ≤ q then z_zero else s_HE σ q)), s_CU σ)
theorem fam_s {σ : zSt} {C : Nat} {O : Option Nat} (hC : 1 ≤ C ∧ C ≤ 64) (hn : s_nM σ < 8) : f_addMachine1 σ (nI C) O = (0, nI (s_nM σ), s_mach σ C O) := by
  unfold f_addMachine1 s_mach
  rw [if_pos (l_zin hC.1 hC.2), if_neg (by omega), zn_nI (by omega)]
theorem fsc_i {σ : zSt} {m c : Int32} (h : zix m (s_nM σ) = false) : f_setCores σ m c = (1, 0, σ) := by
  unfold f_setCores
  rw [if_neg (by rw [h]; decide)]
theorem fsc_r {σ : zSt} {m c : Int32} (h : zix m (s_nM σ) = true) (h2 : zin c 1 64 = false) : f_setCores σ m c = (2, 0, σ) := by
  unfold f_setCores
  rw [if_pos h, if_neg (by rw [h2]; decide)]
def s_cor (σ : zSt) (w C : Nat) : zSt := (σ.1, (s_nM σ, nu (s_MC σ) w C, s_MH σ, s_MA σ), σ.2.2)
theorem fsc_s {σ : zSt} {w C : Nat} (h : w < s_nM σ) (hn : s_nM σ ≤ 8) (hC : 1 ≤ C ∧ C ≤ 64) : f_setCores σ (nI w) (nI C) = (0, nI (s_MC σ w), s_cor σ w C) := by
  unfold f_setCores s_cor
  rw [if_pos (l_zix h), if_pos (l_zin hC.1 hC.2), zn_nI (by omega), zn_nI (by omega)]
theorem fta_i {σ : zSt} {m : Int32} {b : Bool} (h : zix m (s_nM σ) = false) : f_tellApart σ m b = (1, 0, σ) := by
  unfold f_tellApart
  rw [if_neg (by rw [h]; decide)]
def s_tel (σ : zSt) (w : Nat) (b : Bool) : zSt := (σ.1, (s_nM σ, s_MC σ, s_MH σ, nub (s_MA σ) w b), σ.2.2)
theorem fta_s {σ : zSt} {w : Nat} {b : Bool} (h : w < s_nM σ) (hn : s_nM σ ≤ 8) : f_tellApart σ (nI w) b = (0, nI (s_by (s_tel σ w b) w), s_tel σ w b) := by
  unfold f_tellApart s_tel
  rw [if_pos (l_zix h), zn_nI (by omega)]
  rfl
theorem fcu_i {σ : zSt} {p c : Int32} (h : zix p 5 = false) : f_setCoresOfUnit σ p c = (1, 0, σ) := by
  unfold f_setCoresOfUnit
  rw [if_neg (by rw [h]; decide)]
theorem fcu_r {σ : zSt} {p c : Int32} (h : zix p 5 = true) (h2 : zin c 1 16 = false) : f_setCoresOfUnit σ p c = (2, 0, σ) := by
  unfold f_setCoresOfUnit
  rw [if_pos h, if_neg (by rw [h2]; decide)]
def s_cou (σ : zSt) (p C : Nat) : zSt := (σ.1, σ.2.1, σ.2.2.1, nu (s_CU σ) p C)
theorem fcu_s {σ : zSt} {p C : Nat} (h : p < 5) (hC : 1 ≤ C ∧ C ≤ 16) : f_setCoresOfUnit σ (nI p) (nI C) = (0, nI (s_CU σ p), s_cou σ p C) := by
  unfold f_setCoresOfUnit s_cou
  rw [if_pos (l_zix h), if_pos (l_zin hC.1 hC.2), zn_nI (by omega), zn_nI (by omega)]
theorem fin_i {σ : zSt} {m p v d : Int32} (h : zix m (s_nM σ) = false ∨ zix p 5 = false) : f_install σ m p v d = (1, 0, σ) := by
  unfold f_install
  rw [if_neg]
  rintro ⟨c1, c2⟩
  rcases h with h | h
  · rw [c1] at h; cases h
  · rw [c2] at h; cases h
theorem fin_r {σ : zSt} {m p v d : Int32} (h : zix m (s_nM σ) = true) (h2 : zix p 5 = true) (h3 : zin v 1 9 = false ∨ zin d 0 720 = false) : f_install σ m p v d = (2, 0, σ) := by
  unfold f_install
  rw [if_pos ⟨h, h2⟩, if_neg]
  rintro ⟨c1, c2⟩
  rcases h3 with h | h
  · rw [c1] at h; cases h
  · rw [c2] at h; cases h
theorem fin_s {σ : zSt} {w p V D : Nat} (h : w < s_nM σ) (hn : s_nM σ ≤ 8) (hp : p < 5) (hV : 1 ≤ V ∧ V ≤ 9) (hD : D ≤ 720) : f_install σ (nI w) (nI p) (nI V) (nI D) = f_install1 σ (w * 5 + p) V (nI D) := by
  unfold f_install
  rw [if_pos ⟨l_zix h, l_zix hp⟩, if_pos ⟨l_zin hV.1 hV.2, l_zin (Nat.zero_le D) hD⟩, zn_nI (by omega), zn_nI (by omega), zn_nI (by omega)]
def s_ins (σ : zSt) (q V D : Nat) : zSt := (σ.1, σ.2.1, (nu (s_HN σ) q (s_HN σ q + 1), nuF (s_HV σ) q (nu (s_HV σ q) (s_HN σ q) V), nuF (s_HF σ) q (nu (s_HF σ q) (s_HN σ q) D), nuF (s_HE σ) q (nu (s_HE σ q) (s_HN σ q) 721)), s_CU σ)
theorem fin_1 {σ : zSt} {q V D : Nat} (hD : D ≤ 720) : f_install1 σ q V (nI D) = if s_HN σ q < 10 ∧ h_last (s_HF σ q) (s_HE σ q) (s_HN σ q) < nI D then (0, nI (s_HN σ q + 1), s_ins σ q V D) else (3, 0, σ) := by
  unfold f_install1 s_ins
  rw [zn_nI (by omega)]
theorem fun_i {σ : zSt} {m p d : Int32} (h : zix m (s_nM σ) = false ∨ zix p 5 = false) : f_uninstall σ m p d = (1, 0, σ) := by
  unfold f_uninstall
  rw [if_neg]
  rintro ⟨c1, c2⟩
  rcases h with h | h
  · rw [c1] at h; cases h
  · rw [c2] at h; cases h
theorem fun_r {σ : zSt} {m p d : Int32} (h : zix m (s_nM σ) = true) (h2 : zix p 5 = true) (h3 : zin d 0 720 = false) : f_uninstall σ m p d = (2, 0, σ) := by
  unfold f_uninstall
  rw [if_pos ⟨h, h2⟩, if_neg (by rw [h3]; decide)]
def s_uns (σ : zSt) (q D : Nat) : zSt := (σ.1, σ.2.1, (s_HN σ, s_HV σ, s_HF σ, nuF (s_HE σ) q (nu (s_HE σ q) (s_HN σ q - 1) D)), s_CU σ)
theorem fun_s {σ : zSt} {w p D : Nat} (h : w < s_nM σ) (hn : s_nM σ ≤ 8) (hp : p < 5) (hD : D ≤ 720) : f_uninstall σ (nI w) (nI p) (nI D) = if h_open (s_HE σ (w * 5 + p)) (s_HN σ (w * 5 + p)) = true ∧ h_last (s_HF σ (w * 5 + p)) (s_HE σ (w * 5 + p)) (s_HN σ (w * 5 + p)) < nI D then (0, nI (s_HV σ (w * 5 + p) (s_HN σ (w * 5 + p) - 1)), s_uns σ (w * 5 + p) D) else (3, 0, σ) := by
  unfold f_uninstall f_uninstall1 s_uns
  rw [if_pos ⟨l_zix h, l_zix hp⟩, if_pos (l_zin (Nat.zero_le D) hD), zn_nI (by omega), zn_nI (by omega), zn_nI (by omega)]
theorem fru_i {σ : zSt} {m p d : Int32} (h : zix m (s_nM σ) = false ∨ zix p 5 = false) : f_runs σ m p d = (1, 0, σ) := by
  unfold f_runs
  rw [if_neg]
  rintro ⟨c1, c2⟩
  rcases h with h | h
  · rw [c1] at h; cases h
  · rw [c2] at h; cases h
theorem fru_r {σ : zSt} {m p d : Int32} (h : zix m (s_nM σ) = true) (h2 : zix p 5 = true) (h3 : zin d 0 720 = false) : f_runs σ m p d = (2, 0, σ) := by
  unfold f_runs
  rw [if_pos ⟨h, h2⟩, if_neg (by rw [h3]; decide)]
theorem fru_s {σ : zSt} {w p D : Nat} (h : w < s_nM σ) (hn : s_nM σ ≤ 8) (hp : p < 5) (hD : D ≤ 720) : f_runs σ (nI w) (nI p) (nI D) = (0, nI (s_on σ D w p), σ) := by
  unfold f_runs
  rw [if_pos ⟨l_zix h, l_zix hp⟩, if_pos (l_zin (Nat.zero_le D) hD), zn_nI (by omega), zn_nI (by omega), zn_nI (by omega)]
/-! what stays -/
theorem l_lat_no {E : Nat → Nat} {q d : Nat} : ∀ {n : Nat}, (∀ k, k < n → E k / 16384 ≠ q) → l_lat E q d n = none
  | 0, _ => rfl
  | n + 1, h => by
    show (if E n / 16384 = q ∧ E n % 1024 ≤ d then some n else l_lat E q d n) = none
    rw [if_neg (fun z => h n (by omega) z.1)]
    exact l_lat_no (fun k hk => h k (by omega))
theorem l_cnt_no {E : Nat → Nat} {q : Nat} : ∀ {n : Nat}, (∀ k, k < n → E k / 16384 ≠ q) → l_cnt E q n = 0
  | 0, _ => rfl
  | n + 1, h => by
    show l_cnt E q n + (if E n / 16384 = q ∧ 0 < E n / 1024 % 16 then 1 else 0) = 0
    rw [if_neg (fun z => h n (by omega) z.1), l_cnt_no (fun k hk => h k (by omega))]
/-- a pair's own facts are those of its history alone -/
theorem z_pv.of {σ σ' : zSt} {E : Nat → Nat} {n m p : Nat} (H : z_pv σ E n m p) (h1 : s_HN σ' (m * 5 + p) = s_HN σ (m * 5 + p)) (h2 : s_HV σ' (m * 5 + p) = s_HV σ (m * 5 + p)) (h3 : s_HF σ' (m * 5 + p) = s_HF σ (m * 5 + p)) (h4 : s_HE σ' (m * 5 + p) = s_HE σ (m * 5 + p)) : z_pv σ' E n m p := by
  unfold z_pv s_on at H ⊢
  rw [h1, h2, h3, h4]
  exact H
def x_mach (x : zLx) (n C : Nat) (O : Option Nat) : zLx := x_putG (x_putC (x_putH x n O) n C) 1 (n + 1)
theorem z_li.mach {σ : zSt} {x : zLx} (I : z_li σ x) {C : Nat} {O : Option Nat} (h4 : s_nM σ < 4) : z_li (s_mach σ C O) (x_mach x (s_nM σ) C O) := by
  obtain ⟨⟨i1, i2, i3, i4⟩, i5, i6, i7, ⟨i8, i9⟩, i10, i11⟩ := I
  have e : ∀ k, k ≠ 1 → x_G (x_mach x (s_nM σ) C O) k = x_G x k := fun k hk => nu_n hk
  refine ⟨⟨by show s_nM σ + 1 ≤ 4; omega, (e 0 (by omega)).trans i2, (show nu (x_G x) 1 (s_nM σ + 1) 1 = s_nM σ + 1 from nu_s), by rw [e 3 (by omega)]; exact i4⟩, i5, fun j hj => ?_, i7, ⟨?_, fun j hj => ?_⟩, ?_, ?_⟩
  · have hj : j < s_nM σ + 1 := hj
    show nuo (x_H x) (s_nM σ) O j = nuo (s_MH σ) (s_nM σ) O j ∧ nu (x_C x) (s_nM σ) C j = nu (s_MC σ) (s_nM σ) C j
    unfold nuo nu
    by_cases c : j = s_nM σ
    · rw [if_pos c, if_pos c, if_pos c, if_pos c]; exact ⟨rfl, rfl⟩
    · rw [if_neg c, if_neg c, if_neg c, if_neg c]; exact i6 j (by omega)
  · rw [e 2 (by omega)]
    exact Nat.lt_of_lt_of_le i8 (Nat.pow_le_pow_right (by decide) (by show s_nM σ ≤ s_nM σ + 1; omega))
  · have hj : j < s_nM σ + 1 := hj
    rw [e 2 (by omega)]
    show (x_G x 2).testBit j = nub (s_MA σ) (s_nM σ) false j
    by_cases c : j = s_nM σ
    · subst c
      rw [nub_s]
      exact n_bit_ge i8 (Nat.le_refl _)
    · rw [nub_n c]
      exact i9 j (by omega)
  · rw [e 3 (by omega)]
    intro k hk
    obtain ⟨q1, q2, q3, q4⟩ := i10 k hk
    exact ⟨q1, q2, q3, by show _ < s_nM σ + 1; exact Nat.lt_succ_of_lt q4⟩
  · rw [e 3 (by omega)]
    intro m p hm hp
    have hm : m < s_nM σ + 1 := hm
    by_cases c : m = s_nM σ
    · subst c
      have hno : ∀ k, k < x_G x 3 → x_E x k / 16384 ≠ s_nM σ + 8 * p := fun k hk z => by
        have := (i10 k hk).2.2.2
        omega
      have hN : s_HN (s_mach σ C O) (s_nM σ * 5 + p) = 0 := if_pos (by omega)
      have hl : ∀ d, l_lat (x_E x) (s_nM σ + 8 * p) d (x_G x 3) = none := fun d => l_lat_no hno
      show z_pv (s_mach σ C O) (x_E x) (x_G x 3) (s_nM σ) p
      refine ⟨fun d hd => ?_, ?_, ?_, fun z => ?_, ?_⟩
      · unfold l_ver s_on
        rw [hl, hN]
        rfl
      · unfold l_day
        rw [hl, hN]
        rfl
      · unfold l_ver
        rw [hl, hN]
        rfl
      · rw [hN] at z
        cases z
      · rw [hN]
        exact l_cnt_no hno
    · have hq : ¬ s_nM σ * 5 ≤ m * 5 + p := by omega
      exact (i11 m p (by omega) hp).of (if_neg hq) (if_neg hq) (if_neg hq) (if_neg hq)
theorem z_li.cor {σ : zSt} {x : zLx} (I : z_li σ x) {w C : Nat} : z_li (s_cor σ w C) (x_putC x w C) := by
  obtain ⟨i1, i5, i6, i7, i8, i10, i11⟩ := I
  refine ⟨i1, i5, fun j hj => ?_, i7, i8, i10, i11⟩
  show x_H x j = s_MH σ j ∧ nu (x_C x) w C j = nu (s_MC σ) w C j
  have := i6 j hj
  unfold nu
  split
  · exact ⟨this.1, rfl⟩
  · exact this
theorem z_li.cou {σ : zSt} {x : zLx} (I : z_li σ x) {w C : Nat} : z_li (s_cou σ w C) (x_putU x w C) := by
  obtain ⟨i1, i5, i6, i7, i8, i10, i11⟩ := I
  refine ⟨i1, i5, i6, fun p hp => ?_, i8, i10, i11⟩
  show nu (x_U x) w C p = nu (s_CU σ) w C p
  have := i7 p hp
  unfold nu
  split
  · rfl
  · exact this
theorem z_li.tel {σ : zSt} {x : zLx} (I : z_li σ x) {w M : Nat} {b : Bool} (hM : M < 2 ^ s_nM σ) (hb : ∀ j, j < s_nM σ → M.testBit j = if j = w then b else (x_G x 2).testBit j) : z_li (s_tel σ w b) (x_putG x 2 M) := by
  obtain ⟨⟨i1, i2, i3, i4⟩, i5, i6, i7, ⟨i8, i9⟩, i10, i11⟩ := I
  have e : ∀ k, k ≠ 2 → x_G (x_putG x 2 M) k = x_G x k := fun k hk => nu_n hk
  have e2 : x_G (x_putG x 2 M) 2 = M := (show nu (x_G x) 2 M 2 = M from nu_s)
  refine ⟨⟨i1, (e 0 (by omega)).trans i2, (e 1 (by omega)).trans i3, by rw [e 3 (by omega)]; exact i4⟩, i5, i6, i7, ⟨by rw [e2]; exact hM, fun j hj => ?_⟩, by rw [e 3 (by omega)]; exact i10, by rw [e 3 (by omega)]; exact i11⟩
  have hj : j < s_nM σ := hj
  rw [e2, hb j hj]
  show _ = nub (s_MA σ) w b j
  unfold nub
  split
  · rfl
  · exact i9 j hj
theorem l_mask_t {G w n : Nat} (hG : G < 2 ^ n) (hw : w < n) : G ||| 2 ^ w < 2 ^ n ∧ ∀ j, (G ||| 2 ^ w).testBit j = if j = w then true else G.testBit j := by
  refine ⟨Nat.or_lt_two_pow hG (Nat.pow_lt_pow_right (by decide) hw), fun j => ?_⟩
  rw [Nat.testBit_or, Nat.testBit_two_pow]
  by_cases c : j = w
  · rw [if_pos c, decide_eq_true c.symm, Bool.or_true]
  · rw [if_neg c, decide_eq_false (fun z => c z.symm), Bool.or_false]
theorem l_mask_f {G w n : Nat} (hG : G < 2 ^ n) (hn : n ≤ 10) : G &&& (2 ^ w ^^^ 1023) < 2 ^ n ∧ ∀ j, (G &&& (2 ^ w ^^^ 1023)).testBit j = if j = w then false else G.testBit j := by
  refine ⟨Nat.lt_of_le_of_lt Nat.and_le_left hG, fun j => ?_⟩
  rw [Nat.testBit_and, Nat.testBit_xor, Nat.testBit_two_pow]
  by_cases h10 : j < 10
  · rw [n_tb1023 h10, Bool.xor_true]
    by_cases c : j = w
    · rw [if_pos c, decide_eq_true c.symm, Bool.not_true, Bool.and_false]
    · rw [if_neg c, decide_eq_false (fun z => c z.symm), Bool.not_false, Bool.and_true]
  · rw [n_bit_ge hG (by omega), Bool.false_and]
    split <;> rfl
theorem h_on_cong {V F E V' F' E' : Nat → Nat} {d : Nat} : ∀ {n : Nat}, (∀ k, k < n → V k = V' k ∧ F k = F' k ∧ E k = E' k) → h_on V F E d n = h_on V' F' E' d n
  | 0, _ => rfl
  | n + 1, h => by
    show (if F n ≤ d then (if d < E n then V n else 0) else h_on V F E d n) = (if F' n ≤ d then (if d < E' n then V' n else 0) else h_on V' F' E' d n)
    obtain ⟨h1, h2, h3⟩ := h n (by omega)
    rw [h1, h2, h3, h_on_cong (n := n) (fun k hk => h k (by omega))]
theorem h_on_s (V F E : Nat → Nat) (d n : Nat) : h_on V F E d (n + 1) = if F n ≤ d then (if d < E n then V n else 0) else h_on V F E d n := rfl
def x_tell (x : zLx) (n e : Nat) : zLx := x_putG (x_putE x n e) 3 (n + 1)
/-- a row more of what was told -/
theorem z_li.tell {σ : zSt} {HN' : Nat → Nat} {HV' HF' HE' : Nat → Nat → Nat} {x : zLx} (I : z_li σ x) {w p e : Nat} (hw : w < s_nM σ) (hp : p < 5) (hn : x_G x 3 < 60) (he : e < 655360) (he1 : e % 1024 ≤ 720) (he2 : e / 1024 % 16 ≤ 9) (he3 : e / 16384 = w + 8 * p)
    (h4 : ∀ q, q ≠ w * 5 + p → HN' q = s_HN σ q ∧ HV' q = s_HV σ q ∧ HF' q = s_HF σ q ∧ HE' q = s_HE σ q)
    (hv : z_pv (σ.1, σ.2.1, (HN', HV', HF', HE'), s_CU σ) (nu (x_E x) (x_G x 3) e) (x_G x 3 + 1) w p) : z_li (σ.1, σ.2.1, (HN', HV', HF', HE'), s_CU σ) (x_tell x (x_G x 3) e) := by
  obtain ⟨⟨i1, i2, i3, i4⟩, i5, i6, i7, ⟨i8, i9⟩, i10, i11⟩ := I
  have eg : ∀ k, k ≠ 3 → x_G (x_tell x (x_G x 3) e) k = x_G x k := fun k hk => nu_n hk
  have e3 : x_G (x_tell x (x_G x 3) e) 3 = x_G x 3 + 1 := (show nu (x_G x) 3 (x_G x 3 + 1) 3 = x_G x 3 + 1 from nu_s)
  refine ⟨⟨i1, (eg 0 (by omega)).trans i2, (eg 1 (by omega)).trans i3, by rw [e3]; omega⟩, i5, i6, i7, ⟨by rw [eg 2 (by omega)]; exact i8, fun j hj => by rw [eg 2 (by omega)]; exact i9 j hj⟩, ?_, ?_⟩
  · rw [e3]
    intro k hk
    show nu (x_E x) (x_G x 3) e k % 1024 ≤ 720 ∧ nu (x_E x) (x_G x 3) e k / 1024 % 16 ≤ 9 ∧ nu (x_E x) (x_G x 3) e k < 655360 ∧ nu (x_E x) (x_G x 3) e k / 16384 % 8 < s_nM σ
    by_cases c : k = x_G x 3
    · subst c
      rw [nu_s]
      exact ⟨he1, he2, he, by rw [he3]; omega⟩
    · rw [nu_n c]
      exact i10 k (by omega)
  · rw [e3]
    intro m p' hm hp'
    have hm : m < s_nM σ := hm
    by_cases c : m = w ∧ p' = p
    · obtain ⟨rfl, rfl⟩ := c
      exact hv
    · have hq : m * 5 + p' ≠ w * 5 + p := by omega
      obtain ⟨q1, q2, q3, q4⟩ := h4 _ hq
      have hne : ¬ e / 16384 = m + 8 * p' := by
        have : w < 4 := by omega
        have : m < 4 := by omega
        omega
      have old := (i11 m p' hm hp').of (σ' := (σ.1, σ.2.1, (HN', HV', HF', HE'), s_CU σ)) q1 q2 q3 q4
      obtain ⟨o1, o2, o3, o4, o5⟩ := old
      have v1 : ∀ d, l_ver (nu (x_E x) (x_G x 3) e) (m + 8 * p') d (x_G x 3 + 1) = l_ver (x_E x) (m + 8 * p') d (x_G x 3) := fun d => by
        rw [l_ver_new, if_neg (fun z => hne z.1)]
      refine ⟨fun d hd => (v1 d).trans (o1 d hd), ?_, (v1 1000).trans o3, o4, ?_⟩
      · show l_day (nu (x_E x) (x_G x 3) e) (m + 8 * p') (x_G x 3 + 1) = _
        rw [l_day_new _ _ _ _ (by omega), if_neg hne]
        exact o2
      · show l_cnt (nu (x_E x) (x_G x 3) e) (m + 8 * p') (x_G x 3 + 1) = _
        rw [l_cnt_new, if_neg (fun z => hne z.1), Nat.add_zero]
        exact o5
theorem z_pv.ins {σ : zSt} {E : Nat → Nat} {n w p V D e : Nat} (H : z_pv σ E n w p) (hV : 1 ≤ V ∧ V ≤ 9) (hD : D ≤ 720) (he : e = D + 1024 * V + 16384 * (w + 8 * p)) : z_pv (s_ins σ (w * 5 + p) V D) (nu E n e) (n + 1) w p := by
  obtain ⟨o1, o2, o3, o4, o5⟩ := H
  have a1 : e / 16384 = w + 8 * p := by omega
  have a2 : e % 1024 = D := by omega
  have a3 : e / 1024 % 16 = V := by omega
  unfold z_pv s_on at *
  have b1 : s_HN (s_ins σ (w * 5 + p) V D) (w * 5 + p) = s_HN σ (w * 5 + p) + 1 := nu_s
  have b2 : s_HV (s_ins σ (w * 5 + p) V D) (w * 5 + p) = nu (s_HV σ (w * 5 + p)) (s_HN σ (w * 5 + p)) V := nuF_s
  have b3 : s_HF (s_ins σ (w * 5 + p) V D) (w * 5 + p) = nu (s_HF σ (w * 5 + p)) (s_HN σ (w * 5 + p)) D := nuF_s
  have b4 : s_HE (s_ins σ (w * 5 + p) V D) (w * 5 + p) = nu (s_HE σ (w * 5 + p)) (s_HN σ (w * 5 + p)) 721 := nuF_s
  rw [b1, b2, b3, b4]
  have ho : h_open (nu (s_HE σ (w * 5 + p)) (s_HN σ (w * 5 + p)) 721) (s_HN σ (w * 5 + p) + 1) = true := by
    unfold h_open
    rw [Nat.add_sub_cancel, nu_s]
    simp
  refine ⟨fun d hd => ?_, ?_, ?_, fun _ => ?_, ?_⟩
  · rw [l_ver_new, a1, a2, a3, h_on_s, nu_s, nu_s, nu_s]
    by_cases c : D ≤ d
    · rw [if_pos ⟨rfl, c⟩, if_pos c, if_pos (by omega)]
    · rw [if_neg (fun z => c z.2), if_neg c, o1 d hd]
      exact h_on_cong (fun k hk => ⟨(nu_n (by omega)).symm, (nu_n (by omega)).symm, (nu_n (by omega)).symm⟩)
  · rw [l_day_new _ _ _ _ (by omega), if_pos a1, a2]
    unfold h_last
    rw [if_neg (by omega), Nat.add_sub_cancel, nu_s, if_pos rfl, nu_s]
  · rw [l_ver_new, if_pos ⟨a1, by omega⟩, a3, if_pos ho, Nat.add_sub_cancel, nu_s]
  · rw [Nat.add_sub_cancel, nu_s]
    exact hV.1
  · rw [l_cnt_new, if_pos ⟨a1, by omega⟩, o5]
theorem z_pv.uns {σ : zSt} {E : Nat → Nat} {n w p D e : Nat} (H : z_pv σ E n w p) (ho : h_open (s_HE σ (w * 5 + p)) (s_HN σ (w * 5 + p)) = true) (hl : h_last (s_HF σ (w * 5 + p)) (s_HE σ (w * 5 + p)) (s_HN σ (w * 5 + p)) < nI D) (hF : ∀ k, s_HF σ (w * 5 + p) k < 1000) (hD : D ≤ 720) (he : e = D + 16384 * (w + 8 * p)) : z_pv (s_uns σ (w * 5 + p) D) (nu E n e) (n + 1) w p := by
  obtain ⟨o1, o2, o3, o4, o5⟩ := H
  have a1 : e / 16384 = w + 8 * p := by omega
  have a2 : e % 1024 = D := by omega
  have a3 : e / 1024 % 16 = 0 := by omega
  unfold z_pv s_on at *
  have b1 : s_HN (s_uns σ (w * 5 + p) D) (w * 5 + p) = s_HN σ (w * 5 + p) := rfl
  have b2 : s_HV (s_uns σ (w * 5 + p) D) (w * 5 + p) = s_HV σ (w * 5 + p) := rfl
  have b3 : s_HF (s_uns σ (w * 5 + p) D) (w * 5 + p) = s_HF σ (w * 5 + p) := rfl
  have b4 : s_HE (s_uns σ (w * 5 + p) D) (w * 5 + p) = nu (s_HE σ (w * 5 + p)) (s_HN σ (w * 5 + p) - 1) D := nuF_s
  rw [b1, b2, b3, b4]
  unfold h_open at ho
  simp only [Bool.and_eq_true, decide_eq_true_eq] at ho
  obtain ⟨hN, hE⟩ := ho
  obtain ⟨N, eN⟩ : ∃ N, s_HN σ (w * 5 + p) = N + 1 := ⟨s_HN σ (w * 5 + p) - 1, by omega⟩
  rw [eN] at hE hl o1 o5 ⊢
  rw [Nat.add_sub_cancel] at hE ⊢
  unfold h_last at hl
  rw [if_neg (by omega), Nat.add_sub_cancel, if_pos hE] at hl
  have hFD : s_HF σ (w * 5 + p) N < D := n_lt hl (by have := hF N; omega)
  have hc : h_open (nu (s_HE σ (w * 5 + p)) N D) (N + 1) = false := by
    unfold h_open
    rw [Nat.add_sub_cancel, nu_s, decide_eq_false (p := D = 721) (by omega), Bool.and_false]
  refine ⟨fun d hd => ?_, ?_, ?_, fun z => ?_, ?_⟩
  · have old := o1 d hd
    rw [l_ver_new, a1, a2, a3, h_on_s, nu_s]
    rw [h_on_s, hE] at old
    by_cases c : D ≤ d
    · rw [if_pos ⟨rfl, c⟩, if_pos (by omega), if_neg (by omega)]
    · rw [if_neg (fun z => c z.2), old]
      by_cases c2 : s_HF σ (w * 5 + p) N ≤ d
      · rw [if_pos c2, if_pos c2, if_pos (by omega), if_pos (by omega)]
      · rw [if_neg c2, if_neg c2]
        exact h_on_cong (fun k hk => ⟨rfl, rfl, (nu_n (by omega)).symm⟩)
  · rw [l_day_new _ _ _ _ (by omega), if_pos a1, a2]
    unfold h_last
    rw [if_neg (by omega), Nat.add_sub_cancel, nu_s, if_neg (by omega)]
  · rw [l_ver_new, if_pos ⟨a1, by omega⟩, a3, hc]
    rfl
  · rw [hc] at z
    cases z
  · rw [l_cnt_new, if_neg (fun z => by omega), o5]
