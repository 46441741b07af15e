/-! ===== the least cut over the sets of rights ===== -/
def n_mn (f : Nat → Nat) : Nat → Nat
  | 0 => f 0
  | k + 1 => min (n_mn f k) (f (k + 1))
theorem n_mn_le {f : Nat → Nat} : ∀ {k S : Nat}, S ≤ k → n_mn f k ≤ f S
  | 0, S, h => by
    obtain rfl : S = 0 := by omega
    exact Nat.le_refl _
  | k + 1, S, h => by
    show min (n_mn f k) (f (k + 1)) ≤ f S
    by_cases e : S = k + 1
    · subst e; exact Nat.min_le_right _ _
    · exact Nat.le_trans (Nat.min_le_left _ _) (n_mn_le (by omega))
theorem n_mn_at (f : Nat → Nat) : ∀ k, ∃ S, S ≤ k ∧ n_mn f k = f S
  | 0 => ⟨0, Nat.le_refl _, rfl⟩
  | k + 1 => by
    obtain ⟨S, h1, h2⟩ := n_mn_at f k
    by_cases e : n_mn f k ≤ f (k + 1)
    · exact ⟨S, by omega, by show min (n_mn f k) (f (k + 1)) = _; rw [Nat.min_eq_left e, h2]⟩
    · exact ⟨k + 1, Nat.le_refl _, by show min (n_mn f k) (f (k + 1)) = _; rw [Nat.min_eq_right (by omega)]⟩
theorem n_mn_cong {f g : Nat → Nat} (h : ∀ S, f S = g S) (k : Nat) : n_mn f k = n_mn g k := by
  rw [funext h]
theorem n_mx_ge {f : Nat → Nat} : ∀ {n k : Nat}, k < n → f k ≤ n_mx f n
  | 0, k, h => by omega
  | n + 1, k, h => by
    show f k ≤ max (n_mx f n) (f n)
    by_cases e : k = n
    · subst e; exact Nat.le_max_right _ _
    · exact Nat.le_trans (n_mx_ge (by omega)) (Nat.le_max_left _ _)
theorem n_mx_le {f : Nat → Nat} {b : Nat} : ∀ {n : Nat}, (∀ k, k < n → f k ≤ b) → n_mx f n ≤ b
  | 0, _ => Nat.zero_le _
  | n + 1, h => by
    show max (n_mx f n) (f n) ≤ b
    exact Nat.max_le.mpr ⟨n_mx_le (fun k hk => h k (by omega)), h n (by omega)⟩
theorem n_sum_trunc {f : Nat → Nat} {m : Nat} : ∀ {n : Nat}, m ≤ n → (∀ k, m ≤ k → k < n → f k = 0) → n_sum f n = n_sum f m
  | 0, h, _ => by
    obtain rfl : m = 0 := by omega
    rfl
  | n + 1, h, hz => by
    by_cases e : m = n + 1
    · rw [e]
    · show n_sum f n + f n = _
      rw [hz n (by omega) (by omega), n_sum_trunc (n := n) (by omega) (fun k a b => hz k a (by omega))]
      rfl
theorem n_or_bit {f : Nat → Nat} {b : Nat} : ∀ {n : Nat}, (n_or f n).testBit b = true ↔ ∃ k, k < n ∧ (f k).testBit b = true
  | 0 => by
    constructor
    · intro h
      have h : (0 : Nat).testBit b = true := h
      rw [Nat.zero_testBit] at h
      cases h
    · rintro ⟨k, hk, -⟩
      omega
  | n + 1 => by
    have e : (n_or f (n + 1)).testBit b = ((n_or f n).testBit b || (f n).testBit b) := Nat.testBit_or _ _ _
    rw [e, Bool.or_eq_true, n_or_bit (n := n)]
    constructor
    · rintro (⟨k, h1, h2⟩ | h)
      · exact ⟨k, by omega, h2⟩
      · exact ⟨n, by omega, h⟩
    · rintro ⟨k, h1, h2⟩
      by_cases e : k = n
      · subst e; exact Or.inr h2
      · exact Or.inl ⟨k, by omega, h2⟩
theorem n_or_ltb {f : Nat → Nat} {b : Nat} : ∀ {c : Nat}, (∀ k, k < c → f k < 2 ^ b) → n_or f c < 2 ^ b
  | 0, _ => by show 0 < 2 ^ b; exact Nat.two_pow_pos b
  | c + 1, h => Nat.or_lt_two_pow (n_or_ltb (fun k hk => h k (by omega))) (h c (by omega))
theorem n_bit_ge {S n b : Nat} (h : S < 2 ^ n) (hb : n ≤ b) : S.testBit b = false := Nat.testBit_lt_two_pow (Nat.lt_of_lt_of_le h (Nat.pow_le_pow_right (by decide) hb))
def s_ru (σ : zSt) (S : Nat) : Nat := n_sum (fun c => if S.testBit c = true then s_RU σ c else 0) (s_nR σ)
def s_cut (σ : zSt) (GS D : Nat → Nat) (s S : Nat) : Nat := s_ru σ S + n_sum (fun i => if GS i &&& (S ^^^ 1023) = 0 then 0 else D i) s
def s_flow (σ : zSt) (GS D : Nat → Nat) (s : Nat) : Nat := n_mn (s_cut σ GS D s) (2 ^ s_nR σ - 1)
theorem s_cut_cong {σ : zSt} {GS GS' D D' : Nat → Nat} {s : Nat} (h : ∀ i, i < s → GS i = GS' i) (h2 : ∀ i, i < s → D i = D' i) (S : Nat) : s_cut σ GS D s S = s_cut σ GS' D' s S := by
  unfold s_cut
  congr 1
  exact n_sum_cong (fun i hi => by rw [h i hi, h2 i hi])
theorem s_flow_cong {σ : zSt} {GS GS' D D' : Nat → Nat} {s : Nat} (h : ∀ i, i < s → GS i = GS' i) (h2 : ∀ i, i < s → D i = D' i) : s_flow σ GS D s = s_flow σ GS' D' s := n_mn_cong (s_cut_cong h h2) _
theorem s_giv_lt2 (σ : zSt) (p v d n : Nat) : s_giv σ p v d n < 2 ^ n := n_or_ltb (fun k hk => by
  split
  · exact Nat.pow_lt_pow_right (by decide) hk
  · exact Nat.two_pow_pos n)
theorem g_cut_eq {σ : zSt} {GS U D : Nat → Nat} {s S : Nat} (hn : s_nR σ ≤ 10) (hU : ∀ c, c < s_nR σ → U c = s_RU σ c) (hS : S < 2 ^ s_nR σ) : g_cut s GS U D S = s_cut σ GS D s S := by
  unfold g_cut s_cut s_ru
  congr 1
  rw [n_sum_trunc hn (fun k h1 h2 => by rw [if_neg (by rw [n_bit_ge hS h1]; decide)])]
  exact n_sum_cong (fun k hk => by rw [hU k hk])
theorem g_cut_sub {GS U D : Nat → Nat} {s S n : Nat} (hn : n ≤ 10) (hb : ∀ i, i < s → GS i < 2 ^ n) : g_cut s GS U D (S &&& (2 ^ n - 1)) ≤ g_cut s GS U D S := by
  have hbit : ∀ c, (S &&& (2 ^ n - 1)).testBit c = (S.testBit c && decide (c < n)) := fun c => by
    rw [Nat.testBit_and, Nat.testBit_two_pow_sub_one]
  have hle : 2 ^ n ≤ 2 ^ 10 := Nat.pow_le_pow_right (by decide) hn
  unfold g_cut
  refine Nat.add_le_add (n_sum_mono (fun c hc => ?_)) (n_sum_mono (fun i hi => ?_))
  · rw [hbit]
    cases h1 : S.testBit c with
    | true => split <;> simp
    | false => simp
  · have h1024 : GS i < 1024 := Nat.lt_of_lt_of_le (hb i hi) hle
    by_cases h : GS i &&& (S ^^^ 1023) = 0
    · have hs := (g_sub_iff h1024).mp h
      rw [if_pos h, if_pos]
      · exact Nat.le_refl _
      · refine (g_sub_iff h1024).mpr (fun x hx hbx => ?_)
        rw [hbit, hs x hx hbx, Bool.true_and, decide_eq_true_eq]
        by_cases hxn : x < n
        · exact hxn
        · rw [n_bit_ge (hb i hi) (by omega)] at hbx
          cases hbx
    · rw [if_neg h]
      split
      · exact Nat.zero_le _
      · exact Nat.le_refl _
theorem s_flow_is {σ : zSt} {m : Nat} {GS UL U D G : Nat → Nat} {GV : Nat → Nat → Nat} (hn : s_nR σ ≤ 10) (H : g_flow m GS UL U GV G) (hd : ∀ i, i < m → G i ≤ D i) (ht : g_tight m GS U D G) (hU : ∀ c, c < s_nR σ → U c = s_RU σ c) (hb : ∀ i, i < m → GS i < 2 ^ s_nR σ) : n_sum G m = s_flow σ GS D m := by
  obtain ⟨h1, h2, h3, h4, h5⟩ := H
  have hp := Nat.two_pow_pos (s_nR σ)
  apply Nat.le_antisymm
  · obtain ⟨S, hS, e⟩ := n_mn_at (s_cut σ GS D m) (2 ^ s_nR σ - 1)
    unfold s_flow
    rw [e, ← g_cut_eq (U := U) hn hU (by omega)]
    exact g_weak S h1 h2 h4 hd (fun c hc => by have := h3 c hc; omega)
  · obtain ⟨S, hS, e⟩ := ht
    rw [e]
    refine Nat.le_trans ?_ (g_cut_sub (S := S) hn hb)
    have hlt : S &&& (2 ^ s_nR σ - 1) < 2 ^ s_nR σ := Nat.and_lt_two_pow _ (by omega)
    rw [g_cut_eq hn hU hlt]
    exact n_mn_le (by omega)
/-! by sets of needs -/
def s_setw (σ : zSt) (GS D : Nat → Nat) (s X : Nat) : Nat := n_sum (fun k => if X.testBit k then D k else 0) s - s_ru σ (n_or (fun k => if X.testBit k then GS k else 0) s)
theorem n_sum_le2 {f g k : Nat → Nat} {n : Nat} (h : ∀ i, i < n → f i + g i ≤ k i) : n_sum f n + n_sum g n ≤ n_sum k n := by
  rw [← n_sum_add]
  exact n_sum_mono h
theorem s_sets {σ : zSt} {GS D : Nat → Nat} {s : Nat} (hn : s_nR σ ≤ 10) (hb : ∀ i, i < s → GS i < 2 ^ s_nR σ) : n_mx (s_setw σ GS D s) (2 ^ s) + s_flow σ GS D s = n_sum D s := by
  have hp := Nat.two_pow_pos (s_nR σ)
  have hle : 2 ^ s_nR σ ≤ 2 ^ 10 := Nat.pow_le_pow_right (by decide) hn
  have h1024 : ∀ i, i < s → GS i < 1024 := fun i hi => Nat.lt_of_lt_of_le (hb i hi) hle
  have h0 : s_flow σ GS D s ≤ n_sum D s := by
    refine Nat.le_trans (n_mn_le (S := 0) (Nat.zero_le _)) ?_
    unfold s_cut s_ru
    rw [n_sum_0 (f := fun c => if (0 : Nat).testBit c = true then s_RU σ c else 0) (fun k hk => by rw [Nat.zero_testBit]; rfl), Nat.zero_add]
    exact n_sum_mono (fun i hi => by split; exact Nat.zero_le _; exact Nat.le_refl _)
  have hup : n_mx (s_setw σ GS D s) (2 ^ s) ≤ n_sum D s - s_flow σ GS D s := n_mx_le (fun X hX => by
    unfold s_setw
    generalize hN : n_or (fun k => if X.testBit k then GS k else 0) s = N
    have hNlt : N < 2 ^ s_nR σ := by
      rw [← hN]
      exact n_or_ltb (fun k hk => by
        split
        · exact hb k hk
        · exact hp)
    have hf : s_flow σ GS D s ≤ s_cut σ GS D s N := n_mn_le (by omega)
    unfold s_cut at hf
    have hs := n_sum_le2 (f := fun k => if X.testBit k then D k else 0) (g := fun i => if GS i &&& (N ^^^ 1023) = 0 then 0 else D i) (k := D) (n := s) (fun i hi => by
      by_cases hx : X.testBit i = true
      · rw [if_pos hx, if_pos ((g_sub_iff (h1024 i hi)).mpr (fun x hx9 hbx => by
          rw [← hN]
          exact n_or_bit.mpr ⟨i, hi, by rw [if_pos hx]; exact hbx⟩))]
        omega
      · rw [if_neg hx]
        split <;> omega)
    omega)
  have hlo : n_sum D s - s_flow σ GS D s ≤ n_mx (s_setw σ GS D s) (2 ^ s) := by
    obtain ⟨S, hS, e⟩ := n_mn_at (s_cut σ GS D s) (2 ^ s_nR σ - 1)
    have e : s_flow σ GS D s = s_cut σ GS D s S := e
    rw [e]
    generalize hX : n_or (fun i => if GS i &&& (S ^^^ 1023) = 0 then 2 ^ i else 0) s = X
    have hXlt : X < 2 ^ s := by
      rw [← hX]
      exact n_or_ltb (fun k hk => by
        split
        · exact Nat.pow_lt_pow_right (by decide) hk
        · exact Nat.two_pow_pos s)
    have hXb : ∀ i, X.testBit i = true ↔ i < s ∧ GS i &&& (S ^^^ 1023) = 0 := fun i => by
      rw [← hX, n_or_bit]
      constructor
      · rintro ⟨k, hk, hbk⟩
        split at hbk
        · rename_i hc
          rw [Nat.testBit_two_pow] at hbk
          have : k = i := of_decide_eq_true hbk
          subst this
          exact ⟨hk, hc⟩
        · rw [Nat.zero_testBit] at hbk
          cases hbk
      · rintro ⟨hi, hc⟩
        exact ⟨i, hi, by rw [if_pos hc, Nat.testBit_two_pow]; exact decide_eq_true rfl⟩
    refine Nat.le_trans ?_ (n_mx_ge hXlt)
    unfold s_setw s_cut
    have hru : s_ru σ (n_or (fun k => if X.testBit k then GS k else 0) s) ≤ s_ru σ S := by
      unfold s_ru
      refine n_sum_mono (fun c hc => ?_)
      by_cases hcb : (n_or (fun k => if X.testBit k then GS k else 0) s).testBit c = true
      · obtain ⟨k, hk, hkb⟩ := n_or_bit.mp hcb
        split at hkb
        · rename_i hx
          have := (g_sub_iff (h1024 k hk)).mp ((hXb k).mp hx).2 c (by omega) hkb
          rw [if_pos hcb, if_pos this]
          exact Nat.le_refl _
        · rw [Nat.zero_testBit] at hkb
          cases hkb
      · rw [if_neg hcb]
        exact Nat.zero_le _
    have hs : n_sum D s ≤ n_sum (fun k => if X.testBit k then D k else 0) s + n_sum (fun i => if GS i &&& (S ^^^ 1023) = 0 then 0 else D i) s := by
      rw [← n_sum_add]
      refine n_sum_mono (fun i hi => ?_)
      by_cases hc : GS i &&& (S ^^^ 1023) = 0
      · rw [if_pos ((hXb i).mpr ⟨hi, hc⟩)]
        omega
      · rw [if_neg hc]
        omega
    omega
  omega
