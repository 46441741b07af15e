/-! ===== Giving: its rows, and reach ===== -/
def n_o (o : Option Nat) : Int32 := match o with
  | none => -1
  | some x => nI x
theorem n_o_n1 {o : Option Nat} (h : ∀ x, o = some x → x < 1000) : n_o o = -1 ↔ o = none := by
  cases o with
  | none => exact ⟨fun _ => rfl, fun _ => rfl⟩
  | some x =>
    refine ⟨fun q => ?_, fun q => by cases q⟩
    have hx := h x rfl
    have h1 : nI x < 0 := by
      show n_o (some x) < 0
      rw [q]
      decide
    exact (n_nneg h1).elim
theorem n_sh1 {i : Nat} (h : i < 31) : nI 1 <<< (nI i &&& 31) = nI (2 ^ i) := by
  have h2 : 1 * 2 ^ i < 2 ^ 32 := by
    rw [Nat.one_mul]
    exact Nat.pow_lt_pow_right (by decide) (by omega)
  rw [pk_shlN _ i (n_sh i (by omega)) h2, Nat.one_mul]
theorem n_andnot {a b : Nat} (ha : a < 1024) (hb : b < 1024) : nI a &&& (nI b ^^^ -1) = nI (a &&& (b ^^^ 1023)) := by
  apply Int32.toBitVec_inj.mp
  show BitVec.ofNat 32 a &&& (BitVec.ofNat 32 b ^^^ (-1 : Int32).toBitVec) = BitVec.ofNat 32 (a &&& (b ^^^ 1023))
  rw [show (-1 : Int32).toBitVec = BitVec.allOnes 32 by decide]
  apply BitVec.eq_of_getLsbD_eq
  intro i hi
  simp only [BitVec.getLsbD_and, BitVec.getLsbD_xor, BitVec.getLsbD_ofNat, BitVec.getLsbD_allOnes, Nat.testBit_and, Nat.testBit_xor, hi, decide_true, Bool.true_and]
  by_cases h10 : i < 10
  · have : Nat.testBit 1023 i = true := by
      rcases (show i = 0 ∨ i = 1 ∨ i = 2 ∨ i = 3 ∨ i = 4 ∨ i = 5 ∨ i = 6 ∨ i = 7 ∨ i = 8 ∨ i = 9 by omega) with rfl | rfl | rfl | rfl | rfl | rfl | rfl | rfl | rfl | rfl <;> decide
    rw [this]
  · have : Nat.testBit a i = false := Nat.testBit_lt_two_pow (Nat.lt_of_lt_of_le ha (by
      have : 2 ^ 10 ≤ 2 ^ i := Nat.pow_le_pow_right (by decide) (by omega)
      omega))
    rw [this, Bool.false_and, Bool.false_and]
theorem n_tb1023 {i : Nat} (h : i < 10) : Nat.testBit 1023 i = true := by
  rcases (show i = 0 ∨ i = 1 ∨ i = 2 ∨ i = 3 ∨ i = 4 ∨ i = 5 ∨ i = 6 ∨ i = 7 ∨ i = 8 ∨ i = 9 by omega) with rfl | rfl | rfl | rfl | rfl | rfl | rfl | rfl | rfl | rfl <;> decide
theorem n_sum_up {f : Nat → Nat} {k x : Nat} : ∀ {n : Nat}, k < n → n_sum (nu f k x) n + f k = n_sum f n + x
  | 0, h => by omega
  | n + 1, h => by
    show n_sum (nu f k x) n + nu f k x n + f k = n_sum f n + f n + x
    by_cases e : n = k
    · subst e
      have : ∀ m, m ≤ n → n_sum (nu f n x) m = n_sum f m := by
        intro m
        induction m with
        | zero => intro _; rfl
        | succ m ih =>
          intro hm
          show n_sum (nu f n x) m + nu f n x m = n_sum f m + f m
          rw [ih (by omega), nu_n (by omega)]
      rw [this n (Nat.le_refl _), nu_s]
      omega
    · rw [nu_n e]
      have := n_sum_up (f := f) (k := k) (x := x) (n := n) (by omega)
      omega
theorem n_sum_cong {f g : Nat → Nat} : ∀ {n : Nat}, (∀ k, k < n → f k = g k) → n_sum f n = n_sum g n
  | 0, _ => rfl
  | n + 1, h => by
    show n_sum f n + f n = n_sum g n + g n
    rw [n_sum_cong (fun k hk => h k (by omega)), h n (by omega)]
theorem n_sum_one {f : Nat → Nat} (h : ∀ k, f k ≤ 1) : ∀ n, n_sum f n ≤ n ∧ (n_sum f n = n → ∀ k, k < n → f k = 1)
  | 0 => ⟨Nat.le_refl _, fun _ k hk => by omega⟩
  | n + 1 => by
    obtain ⟨h1, h2⟩ := n_sum_one h n
    have h3 := h n
    refine ⟨?_, fun e k hk => ?_⟩
    · show n_sum f n + f n ≤ n + 1
      omega
    · have e : n_sum f n + f n = n + 1 := e
      by_cases hk2 : k = n
      · subst hk2; omega
      · exact h2 (by omega) k (by omega)
/-- a search's state: how many are in the queue, the reached, the queue, from where, by whom -/
abbrev gS : Type := Nat × Nat × (Nat → Nat) × (Nat → Option Nat) × (Nat → Nat)
def g_edge (need : Nat) (GS : Nat → Nat) (GV : Nat → Nat → Nat) (q : gS) (k : Nat) : Prop :=
  (q.2.2.2.1 (q.2.2.1 k) = none ∧ q.2.2.2.2 (q.2.2.1 k) = need ∧ (GS need).testBit (q.2.2.1 k) = true) ∨
  ∃ k', k' < k ∧ q.2.2.2.1 (q.2.2.1 k) = some (q.2.2.1 k') ∧ q.2.2.2.2 (q.2.2.1 k) < need ∧ 0 < GV (q.2.2.2.2 (q.2.2.1 k)) (q.2.2.1 k') ∧ (GS (q.2.2.2.2 (q.2.2.1 k))).testBit (q.2.2.1 k) = true
def g_in (need : Nat) (GS : Nat → Nat) (GV : Nat → Nat → Nat) (q : gS) : Prop :=
  q.1 ≤ 10 ∧ q.2.1 < 1024 ∧ n_sum (fun x => if q.2.1.testBit x then 1 else 0) 10 = q.1 ∧ (∀ x, x < 10 → (q.2.1.testBit x = true ↔ ∃ k, k < q.1 ∧ q.2.2.1 k = x)) ∧ (∀ k, k < q.1 → q.2.2.1 k < 10) ∧
  (∀ k k', k < q.1 → k' < q.1 → q.2.2.1 k = q.2.2.1 k' → k = k') ∧ ∀ k, k < q.1 → g_edge need GS GV q k
theorem g_full {need : Nat} {GS : Nat → Nat} {GV : Nat → Nat → Nat} {q : gS} (h : g_in need GS GV q) (hq : q.1 = 10) : ∀ x, x < 10 → q.2.1.testBit x = true := by
  intro x hx
  have h1 := (n_sum_one (f := fun x => if q.2.1.testBit x then 1 else 0) (fun k => by split <;> omega) 10).2 (h.2.2.1.trans hq) x hx
  cases hb : q.2.1.testBit x with
  | true => rfl
  | false => rw [hb] at h1; exact absurd h1 (by decide)
/-- one right more -/
def g_add (q : gS) (x : Nat) (from_ : Option Nat) (e : Nat) : gS := (q.1 + 1, q.2.1 ||| 2 ^ x, nu q.2.2.1 q.1 x, (fun y => if y = x then from_ else q.2.2.2.1 y), nu q.2.2.2.2 x e)
theorem g_add_in {need : Nat} {GS : Nat → Nat} {GV : Nat → Nat → Nat} {q : gS} {x e : Nat} {from_ : Option Nat} (h : g_in need GS GV q) (hx : x < 10) (hb : q.2.1.testBit x = false)
    (hs : (from_ = none ∧ e = need ∧ (GS need).testBit x = true) ∨ ∃ k', k' < q.1 ∧ from_ = some (q.2.2.1 k') ∧ e < need ∧ 0 < GV e (q.2.2.1 k') ∧ (GS e).testBit x = true) : g_in need GS GV (g_add q x from_ e) := by
  obtain ⟨h1, h2, h3, h4, h5, h6, h7⟩ := h
  have htb : ∀ y, (q.2.1 ||| 2 ^ x).testBit y = (q.2.1.testBit y || decide (x = y)) := fun y => by rw [Nat.testBit_or, Nat.testBit_two_pow]
  have hsum : n_sum (fun y => if (q.2.1 ||| 2 ^ x).testBit y then 1 else 0) 10 = q.1 + 1 := by
    have e1 : (fun y => if (q.2.1 ||| 2 ^ x).testBit y then 1 else 0) = nu (fun y => if q.2.1.testBit y then 1 else 0) x 1 := by
      funext y
      rw [htb]
      unfold nu
      by_cases hy : y = x
      · subst hy; simp
      · rw [if_neg hy, decide_eq_false (fun z => hy z.symm), Bool.or_false]
    have e2 := n_sum_up (f := fun y => if q.2.1.testBit y then 1 else 0) (k := x) (x := 1) (n := 10) hx
    rw [e1]
    rw [hb, h3] at e2
    simpa using e2
  have hle : q.1 + 1 ≤ 10 := by
    rw [← hsum]
    exact (n_sum_one (fun k => by split <;> omega) 10).1
  have hno : ∀ k, k < q.1 → q.2.2.1 k ≠ x := by
    intro k hk e9
    have := (h4 x hx).mpr ⟨k, hk, e9⟩
    rw [hb] at this
    cases this
  refine ⟨hle, Nat.or_lt_two_pow (n := 10) h2 (Nat.pow_lt_pow_right (by decide) hx), hsum, ?_, ?_, ?_, ?_⟩
  · intro y hy
    show (q.2.1 ||| 2 ^ x).testBit y = true ↔ ∃ k, k < q.1 + 1 ∧ nu q.2.2.1 q.1 x k = y
    rw [htb]
    constructor
    · intro hyb
      by_cases e9 : x = y
      · exact ⟨q.1, by omega, by rw [nu_s]; exact e9⟩
      · rw [decide_eq_false e9, Bool.or_false] at hyb
        obtain ⟨k, hk, hk2⟩ := (h4 y hy).mp hyb
        exact ⟨k, by omega, by rw [nu_n (by omega)]; exact hk2⟩
    · rintro ⟨k, hk, hk2⟩
      by_cases e9 : k = q.1
      · subst e9
        rw [nu_s] at hk2
        rw [decide_eq_true hk2, Bool.or_true]
      · rw [nu_n e9] at hk2
        rw [(h4 y hy).mpr ⟨k, by omega, hk2⟩, Bool.true_or]
  · intro k hk
    show nu q.2.2.1 q.1 x k < 10
    unfold nu
    split
    · exact hx
    · exact h5 k (by have : k < q.1 + 1 := hk; omega)
  · intro k k' hk hk' e9
    have hk : k < q.1 + 1 := hk
    have hk' : k' < q.1 + 1 := hk'
    have e9 : nu q.2.2.1 q.1 x k = nu q.2.2.1 q.1 x k' := e9
    by_cases a1 : k = q.1 <;> by_cases a2 : k' = q.1
    · omega
    · rw [a1, nu_s, nu_n a2] at e9
      exact absurd e9.symm (hno k' (by omega))
    · rw [a2, nu_s, nu_n a1] at e9
      exact absurd e9 (hno k (by omega))
    · rw [nu_n a1, nu_n a2] at e9
      exact h6 k k' (by omega) (by omega) e9
  · intro k hk
    have hk : k < q.1 + 1 := hk
    unfold g_edge g_add
    dsimp only
    by_cases a1 : k = q.1
    · subst a1
      rw [nu_s, if_pos rfl, nu_s]
      rcases hs with ⟨s1, s2, s3⟩ | ⟨k', s1, s2, s3, s4, s5⟩
      · exact Or.inl ⟨s1, s2, s3⟩
      · exact Or.inr ⟨k', s1, by rw [nu_n (by omega)]; exact s2, s3, by rw [nu_n (by omega)]; exact s4, s5⟩
    · rw [nu_n a1, if_neg (hno k (by omega)), nu_n (hno k (by omega))]
      rcases h7 k (by omega) with h | ⟨k', s1, s2, s3, s4, s5⟩
      · exact Or.inl h
      · exact Or.inr ⟨k', s1, by rw [nu_n (by omega)]; exact s2, s3, by rw [nu_n (by omega)]; exact s4, s5⟩
/-! the cells -/
def z_give0 (h : zH) (ad : Nat → Nat) (s : Nat) (GS UL : Nat → Nat) (GV : Nat → Nat → Nat) (q : gS) : Prop :=
  h 14 = some (ad 14, .inr (1, [.ref (ad 15), .ref (ad 16), .ref (ad 17), .int (nI s), .ref (ad 18), .ref (ad 19), .ref (ad 20), .int (nI q.1), .int (nI q.2.1)])) ∧
  (∃ e : Nat → Option Nat, h 15 = some (ad 15, .inl (3, 41, .inr (.inr (.inr (.inr e))))) ∧ ∀ i, i < 41 → e i = some (ad (100 + i))) ∧
  h 16 = z_arr (ad 16) 41 GS ∧ h 17 = z_arr (ad 17) 10 UL ∧ h 18 = z_arr (ad 18) 10 q.2.2.1 ∧ h 19 = some (ad 19, .inl (0, 10, .inl (fun k => n_o (q.2.2.2.1 k)))) ∧ h 20 = z_arr (ad 20) 10 q.2.2.2.2 ∧
  ∀ i, i < 41 → h (100 + i) = z_arr (ad (100 + i)) 10 (GV i)
theorem n_updo (f : Nat → Option Nat) (k : Nat) (o : Option Nat) : upd (fun j => n_o (f j)) k (n_o o) = fun j => n_o (if j = k then o else f j) := by
  funext j
  unfold upd
  split <;> rfl
section ZReach
variable {Z : zZ} {h : zH} {ad : Nat → Nat} {s need e rights : Nat} {GS UL : Nat → Nat} {GV : Nat → Nat → Nat} {q : gS} {from_ : Option Nat} {Q : zO → zH → Prop}
theorem l_X0_reach (hr : rights < 1024) (he : e < 1000) (hf : ∀ x, from_ = some x → x < 10) {q0 : gS} (hq0 : q0.1 ≤ 10)
    (hs : ∀ x, x < 10 → rights.testBit x = true → (from_ = none ∧ e = need ∧ (GS need).testBit x = true) ∨ ∃ k', k' < q0.1 ∧ from_ = some (q0.2.2.1 k') ∧ e < need ∧ 0 < GV e (q0.2.2.1 k') ∧ (GS e).testBit x = true)
    (hq : ∀ (g : zH) (q' : gS), z_same 14 199 h g → z_give0 g ad s GS UL GV q' → g_in need GS GV q' → q0.1 ≤ q'.1 → (∀ k, k < q0.1 → q'.2.2.1 k = q0.2.2.1 k) → (∀ x, x < 10 → rights.testBit x = true → q'.2.1.testBit x = true) → (∀ x, x < 10 → q0.2.1.testBit x = true → q'.2.1.testBit x = true) → Q (.inl none) g) :
    ∀ n x (g : zH) (q' : gS), x + n = 10 → z_same 14 199 h g → z_give0 g ad s GS UL GV q' → g_in need GS GV q' → q0.1 ≤ q'.1 → (∀ k, k < q0.1 → q'.2.2.1 k = q0.2.2.1 k) → (∀ y, y < x → rights.testBit y = true → q'.2.1.testBit y = true) → (∀ x, x < 10 → q0.2.1.testBit x = true → q'.2.1.testBit x = true) →
      z_J Z mX0_reach (zR 0 0 0 0) 0 0 Q 3 [.ref (ad 14), .int (nI rights), .int (n_o from_), .int (nI e), .int (nI x)] [] g := by
  intro n
  induction n with
  | zero =>
    intro x g q' hx hsm hG hI h1 h2 h3 h4
    obtain rfl : x = 10 := by omega
    refine iX0_reach_3 rfl ?_
    refine iX0_reach_7 (fun cc => ?_) (fun cc => ?_)
    · exact iX0_reach_91 (Nat.le_of_ble_eq_true rfl) (Nat.le_of_ble_eq_true rfl) (hq g q' hsm hG hI h1 h2 h3 h4)
    · exact absurd (Int32.le_refl _) cc
  | succ n ih =>
    intro x g q' hx hsm hG hI h1 h2 h3 h4
    obtain ⟨k0, ⟨eo, ko, ko2⟩, k16, k17, k18, k19, k20, kr⟩ := id hG
    have hI' := hI
    obtain ⟨i1, i2, i3, i4, i5, i6, i7⟩ := hI
    refine iX0_reach_3 rfl ?_
    refine iX0_reach_7 (fun cc => ?_) (fun cc => ?_)
    · have := n_le cc; omega
    · refine iX0_reach_10 rfl ?_
      refine iX0_reach_11 k0 rfl ?_
      refine iX0_reach_14 rfl ?_
      refine iX0_reach_16 (fun cc => ?_) (fun cc => ?_)
      · have hz := n_le cc
        exact iX0_reach_91 (Nat.le_of_ble_eq_true rfl) (Nat.le_of_ble_eq_true rfl) (hq g q' hsm hG hI' h1 h2 (fun y hy _ => g_full hI' (by omega) y hy) h4)
      · have hz := n_nle cc
        refine iX0_reach_19 rfl ?_
        refine iX0_reach_21 k0 rfl ?_
        refine iX0_reach_24 rfl ?_
        refine iX0_reach_32 (fun cc => ?_) (fun cc => ?_)
        all_goals
          have hbit : ((nI rights &&& (nI q'.2.1 ^^^ -1)) >>> (nI x &&& 31)) &&& nI 1 = nI ((rights &&& (q'.2.1 ^^^ 1023)) / 2 ^ x % 2) := by
            rw [n_andnot hr i2]
            exact n_bit (Nat.lt_of_le_of_lt Nat.and_le_left (by omega)) (by omega)
          have htb : (rights &&& (q'.2.1 ^^^ 1023)).testBit x = (rights.testBit x && !q'.2.1.testBit x) := by
            rw [Nat.testBit_and, Nat.testBit_xor, n_tb1023 (by omega), Bool.xor_true]
        · have c0 := n_e0 (hbit.symm.trans cc) (by omega)
          rw [n_tb, decide_eq_false (by omega)] at htb
          refine iX0_reach_85 rfl ?_
          show z_J Z mX0_reach (zR 0 0 0 0) 0 0 Q 3 [.ref (ad 14), .int (nI rights), .int (n_o from_), .int (nI e), .int (nI x + nI 1)] [] g
          rw [nI_add]
          refine ih (x + 1) g q' (by omega) hsm hG hI' h1 h2 (fun y hy hb => ?_) h4
          by_cases e9 : y = x
          · subst e9
            rw [hb, Bool.true_and] at htb
            cases hb2 : q'.2.1.testBit y with
            | true => rfl
            | false => rw [hb2] at htb; cases htb
          · exact h3 y (by omega) hb
        · have c1 : (rights &&& (q'.2.1 ^^^ 1023)) / 2 ^ x % 2 ≠ 0 := fun z => cc (hbit.trans (by rw [z]; rfl))
          rw [n_tb, decide_eq_true (by omega)] at htb
          have hbr : rights.testBit x = true ∧ q'.2.1.testBit x = false := by
            have htb := htb.symm
            rw [Bool.and_eq_true, Bool.not_eq_true'] at htb
            exact htb
          refine iX0_reach_35 rfl ?_
          refine iX0_reach_37 k0 rfl ?_
          refine iX0_reach_40 rfl ?_
          show z_J Z mX0_reach (zR 0 0 0 0) 0 0 Q 45 [.ref (ad 14), .int (nI rights), .int (n_o from_), .int (nI e), .int (nI x)] [.int (nI q'.2.1 ||| (nI 1 <<< (nI x &&& 31))), .ref (ad 14)] g
          rw [n_sh1 (by omega), nI_or]
          refine iX0_reach_45 k0 rfl ?_
          refine iX0_reach_48 rfl ?_
          generalize hg1 : z_u g 14 _ = g1
          have l0 : g1 14 = some (ad 14, .inr (1, [.ref (ad 15), .ref (ad 16), .ref (ad 17), .int (nI s), .ref (ad 18), .ref (ad 19), .ref (ad 20), .int (nI q'.1), .int (nI (q'.2.1 ||| 2 ^ x))])) := by rw [← hg1]; exact z_u_s
          have f1 : ∀ y, y ≠ 14 → g1 y = g y := fun y hy => by rw [← hg1, z_u_n hy]
          refine iX0_reach_49 l0 rfl ?_
          refine iX0_reach_52 rfl ?_
          refine iX0_reach_55 ((f1 19 (by omega)).trans k19) rfl (by omega) (by omega) ?_
          refine iX0_reach_56 rfl ?_
          rw [n_updo]
          generalize hg2 : z_u g1 19 _ = g2
          have f2 : ∀ y, y ≠ 14 → y ≠ 19 → g2 y = g y := fun y hy hy2 => by rw [← hg2, z_u_n hy2]; exact f1 y hy
          have m0 : g2 14 = some (ad 14, .inr (1, [.ref (ad 15), .ref (ad 16), .ref (ad 17), .int (nI s), .ref (ad 18), .ref (ad 19), .ref (ad 20), .int (nI q'.1), .int (nI (q'.2.1 ||| 2 ^ x))])) := by rw [← hg2, z_u_n (by omega)]; exact l0
          refine iX0_reach_57 m0 rfl ?_
          refine iX0_reach_60 rfl ?_
          refine iX0_reach_63 ((f2 20 (by omega) (by omega)).trans k20) rfl (by omega) (by omega) ?_
          refine iX0_reach_64 rfl ?_
          rw [n_upd]
          generalize hg3 : z_u g2 20 _ = g3
          have f3 : ∀ y, y ≠ 14 → y ≠ 19 → y ≠ 20 → g3 y = g y := fun y hy hy2 hy3 => by rw [← hg3, z_u_n hy3]; exact f2 y hy hy2
          have n0 : g3 14 = some (ad 14, .inr (1, [.ref (ad 15), .ref (ad 16), .ref (ad 17), .int (nI s), .ref (ad 18), .ref (ad 19), .ref (ad 20), .int (nI q'.1), .int (nI (q'.2.1 ||| 2 ^ x))])) := by rw [← hg3, z_u_n (by omega)]; exact m0
          refine iX0_reach_65 n0 rfl ?_
          refine iX0_reach_68 rfl ?_
          refine iX0_reach_69 n0 rfl ?_
          refine iX0_reach_72 rfl ?_
          refine iX0_reach_74 ((f3 18 (by omega) (by omega) (by omega)).trans k18) rfl (by omega) (by omega) ?_
          refine iX0_reach_75 rfl ?_
          rw [n_upd]
          generalize hg4 : z_u g3 18 _ = g4
          have f4 : ∀ y, y ≠ 14 → y ≠ 19 → y ≠ 20 → y ≠ 18 → g4 y = g y := fun y hy hy2 hy3 hy4 => by rw [← hg4, z_u_n hy4]; exact f3 y hy hy2 hy3
          have p0 : g4 14 = some (ad 14, .inr (1, [.ref (ad 15), .ref (ad 16), .ref (ad 17), .int (nI s), .ref (ad 18), .ref (ad 19), .ref (ad 20), .int (nI q'.1), .int (nI (q'.2.1 ||| 2 ^ x))])) := by rw [← hg4, z_u_n (by omega)]; exact n0
          refine iX0_reach_77 p0 rfl ?_
          refine iX0_reach_80 rfl ?_
          refine iX0_reach_82 p0 rfl ?_
          refine iX0_reach_85 rfl ?_
          show z_J Z mX0_reach (zR 0 0 0 0) 0 0 Q 3 [.ref (ad 14), .int (nI rights), .int (n_o from_), .int (nI e), .int (nI x + nI 1)] [] _
          rw [nI_add]
          generalize hg5 : z_u g4 14 _ = g5
          have f5 : ∀ y, y ≠ 14 → g5 y = g4 y := fun y hy => by rw [← hg5, z_u_n hy]
          have hs9 : z_same 14 199 g g5 := fun y hy => by rw [f5 _ (by omega), f4 _ (by omega) (by omega) (by omega) (by omega)]
          have hadd : g_in need GS GV (g_add q' x from_ e) := by
            refine g_add_in hI' (by omega) hbr.2 ?_
            rcases hs x (by omega) hbr.1 with z | ⟨k', z1, z2, z3, z4, z5⟩
            · exact Or.inl z
            · exact Or.inr ⟨k', by omega, by rw [h2 k' z1]; exact z2, z3, by rw [h2 k' z1]; exact z4, z5⟩
          have htb2 : ∀ y, (q'.2.1 ||| 2 ^ x).testBit y = (q'.2.1.testBit y || decide (x = y)) := fun y => by rw [Nat.testBit_or, Nat.testBit_two_pow]
          refine ih (x + 1) g5 (g_add q' x from_ e) (by omega) (hsm.trans hs9) ⟨?_, ⟨eo, ?_, ko2⟩, ?_, ?_, ?_, ?_, ?_, ?_⟩ hadd (by show q0.1 ≤ q'.1 + 1; omega) (fun k hk => ?_) (fun y hy hb => ?_) (fun y hy hb => ?_)
          · rw [← hg5, z_u_s]
            show some (ad 14, Sum.inr (1, [_, _, _, _, _, _, _, Value.int (nI q'.1 + nI 1), _])) = _
            rw [nI_add]
            rfl
          · rw [f5 _ (by omega), f4 _ (by omega) (by omega) (by omega) (by omega)]; exact ko
          · rw [f5 _ (by omega), f4 _ (by omega) (by omega) (by omega) (by omega)]; exact k16
          · rw [f5 _ (by omega), f4 _ (by omega) (by omega) (by omega) (by omega)]; exact k17
          · rw [f5 _ (by omega), ← hg4]; exact z_u_s
          · rw [f5 _ (by omega), ← hg4, z_u_n (by omega), ← hg3, z_u_n (by omega), ← hg2]; exact z_u_s
          · rw [f5 _ (by omega), ← hg4, z_u_n (by omega), ← hg3]; exact z_u_s
          · intro i hi
            rw [f5 _ (by omega), f4 _ (by omega) (by omega) (by omega) (by omega)]; exact kr i hi
          · show nu q'.2.2.1 q'.1 x k = _
            rw [nu_n (by omega)]; exact h2 k hk
          · show (q'.2.1 ||| 2 ^ x).testBit y = true
            rw [htb2]
            by_cases e9 : x = y
            · rw [decide_eq_true e9, Bool.or_true]
            · rw [h3 y (by omega) hb, Bool.true_or]
          · show (q'.2.1 ||| 2 ^ x).testBit y = true
            rw [htb2, h4 y hy hb, Bool.true_or]
theorem c_X0_reach (hr : rights < 1024) (he : e < 1000) (hf : ∀ x, from_ = some x → x < 10) (hG : z_give0 h ad s GS UL GV q) (hI : g_in need GS GV q)
    (hs : ∀ x, x < 10 → rights.testBit x = true → (from_ = none ∧ e = need ∧ (GS need).testBit x = true) ∨ ∃ k', k' < q.1 ∧ from_ = some (q.2.2.1 k') ∧ e < need ∧ 0 < GV e (q.2.2.1 k') ∧ (GS e).testBit x = true) :
    z_J Z mX0_reach (zR 0 0 0 0) 0 0 (fun o g => o = .inl none ∧ z_same 14 199 h g ∧ ∃ q' : gS, z_give0 g ad s GS UL GV q' ∧ g_in need GS GV q' ∧ q.1 ≤ q'.1 ∧ (∀ k, k < q.1 → q'.2.2.1 k = q.2.2.1 k) ∧ (∀ x, x < 10 → rights.testBit x = true → q'.2.1.testBit x = true) ∧ ∀ x, x < 10 → q.2.1.testBit x = true → q'.2.1.testBit x = true)
      0 [.ref (ad 14), .int (nI rights), .int (n_o from_), .int (nI e)] [] h := by
  refine iX0_reach_0 rfl ?_
  exact l_X0_reach hr he hf hI.1 hs (fun g q' a1 a2 a3 a4 a5 a6 a7 => ⟨rfl, a1, q', a2, a3, a4, a5, a6, a7⟩) 10 0 h q (by omega) z_same.rf hG hI (Nat.le_refl _) (fun _ _ => rfl) (fun y hy => by omega) (fun _ _ z => z)
end ZReach
section ZIs
variable {Z : zZ} {h : zH} {ad : Nat → Nat} {s : Nat} {GS UL : Nat → Nat} {GV : Nat → Nat → Nat} {q : gS}
theorem c_X0_isRight {o : Option Nat} (ho : ∀ x, o = some x → x < 10) : z_J Z mX0_isRight (zR 0 0 0 0) 0 0 (z_eq (.inl (some (.int (zb o.isSome)))) h) 0 [.int (n_o o)] [] h := by
  cases o with
  | none =>
    refine iX0_isRight_0 rfl ?_
    refine iX0_isRight_1 (fun cc => ?_) (fun cc => ?_)
    · refine iX0_isRight_14 rfl ?_
      exact iX0_isRight_15 (zb_nar false) (Nat.le_of_ble_eq_true rfl) (Nat.le_of_ble_eq_true rfl) ⟨rfl, rfl⟩
    · exact absurd (by decide) cc
  | some x =>
    have hx := ho x rfl
    refine iX0_isRight_0 rfl ?_
    refine iX0_isRight_1 (fun cc => ?_) (fun cc => ?_)
    · exact (n_nneg (a := x) cc).elim
    · refine iX0_isRight_4 rfl ?_
      refine iX0_isRight_7 (fun cc => ?_) (fun cc => ?_)
      · have := n_le (a := 10) (b := x) cc
        omega
      · refine iX0_isRight_10 rfl ?_
        exact iX0_isRight_15 (zb_nar true) (Nat.le_of_ble_eq_true rfl) (Nat.le_of_ble_eq_true rfl) ⟨rfl, rfl⟩
theorem c_X0_isExchanged (hG : z_give0 h ad s GS UL GV q) {x : Nat} (hx : x < 10) (hs : s ≤ 41) (ho : ∀ y, q.2.2.2.1 x = some y → y < 10 ∧ q.2.2.2.2 x < s) : z_J Z mX0_isExchanged (zR 1 20 0 0) 0 0 (z_eq (.inl (some (.int (zb (q.2.2.2.1 x).isSome)))) h) 0 [.ref (ad 14), .int (nI x)] [] h := by
  obtain ⟨k0, -, k16, k17, k18, k19, k20, kr⟩ := id hG
  refine iX0_isExchanged_0 rfl ?_
  refine iX0_isExchanged_1 k0 rfl ?_
  refine iX0_isExchanged_4 rfl ?_
  refine iX0_isExchanged_5 k19 rfl (by omega) (by omega) ?_
  refine iX0_isExchanged_6 (R' := zR 0 0 0 0) rfl rfl (z_rmo rfl) (c_X0_isRight (fun y hy => (ho y hy).1)) (z_qr ?_) z_qx
  cases hz : q.2.2.2.1 x with
  | none =>
    refine iX0_isExchanged_9 (fun _ => ?_) (fun cc => absurd rfl cc)
    refine iX0_isExchanged_38 rfl ?_
    exact iX0_isExchanged_39 (zb_nar false) (Nat.le_of_ble_eq_true rfl) (Nat.le_of_ble_eq_true rfl) ⟨rfl, rfl⟩
  | some y =>
    have he := (ho y hz).2
    refine iX0_isExchanged_9 (fun cc => absurd (show (1 : Int32) = 0 from cc) (by decide)) (fun _ => ?_)
    refine iX0_isExchanged_12 rfl ?_
    refine iX0_isExchanged_13 k0 rfl ?_
    refine iX0_isExchanged_16 rfl ?_
    refine iX0_isExchanged_17 k20 rfl (by omega) (by omega) ?_
    refine iX0_isExchanged_18 (fun cc => ?_) (fun cc => ?_)
    · exact (n_nneg (a := q.2.2.2.2 x) cc).elim
    · refine iX0_isExchanged_21 rfl ?_
      refine iX0_isExchanged_22 k0 rfl ?_
      refine iX0_isExchanged_25 rfl ?_
      refine iX0_isExchanged_26 k20 rfl (by omega) (by omega) ?_
      refine iX0_isExchanged_27 rfl ?_
      refine iX0_isExchanged_28 k0 rfl ?_
      refine iX0_isExchanged_31 (fun cc => ?_) (fun cc => ?_)
      · have := n_le (a := s) (b := q.2.2.2.2 x) cc
        omega
      · refine iX0_isExchanged_34 rfl ?_
        exact iX0_isExchanged_39 (zb_nar true) (Nat.le_of_ble_eq_true rfl) (Nat.le_of_ble_eq_true rfl) ⟨rfl, rfl⟩
end ZIs
