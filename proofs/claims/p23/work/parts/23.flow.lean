/-! ===== what is given is the least cut ===== -/
theorem g_sub_iff {a S : Nat} (ha : a < 1024) : a &&& (S ^^^ 1023) = 0 ↔ g_sub a S := by
  constructor
  · intro h x hx hb
    have h1 : (a &&& (S ^^^ 1023)).testBit x = false := by rw [h]; exact Nat.zero_testBit x
    rw [Nat.testBit_and, Nat.testBit_xor, n_tb1023 hx, hb, Bool.true_and, Bool.xor_true] at h1
    simpa using h1
  · intro h
    apply Nat.eq_of_testBit_eq
    intro x
    rw [Nat.zero_testBit, Nat.testBit_and, Nat.testBit_xor]
    by_cases hx : x < 10
    · rw [n_tb1023 hx, Bool.xor_true]
      cases hb : a.testBit x with
      | false => rfl
      | true => rw [h x hx hb]; rfl
    · have : Nat.testBit a x = false := Nat.testBit_lt_two_pow (Nat.lt_of_lt_of_le ha (by
        have : 2 ^ 10 ≤ 2 ^ x := Nat.pow_le_pow_right (by decide) (by omega)
        omega))
      rw [this, Bool.false_and]
theorem n_sum_add (f g : Nat → Nat) : ∀ n, n_sum (fun k => f k + g k) n = n_sum f n + n_sum g n
  | 0 => rfl
  | n + 1 => by
    show n_sum (fun k => f k + g k) n + (f n + g n) = n_sum f n + f n + (n_sum g n + g n)
    rw [n_sum_add f g n]
    omega
theorem n_sum_swap (f : Nat → Nat → Nat) : ∀ n m, n_sum (fun i => n_sum (fun c => f i c) m) n = n_sum (fun c => n_sum (fun i => f i c) n) m
  | 0, m => (n_sum_0 (fun _ _ => rfl)).symm
  | n + 1, m => by
    show n_sum (fun i => n_sum (fun c => f i c) m) n + n_sum (fun c => f n c) m = n_sum (fun c => n_sum (fun i => f i c) n + f n c) m
    rw [n_sum_swap f n m, n_sum_add]
theorem n_sum_mono {f g : Nat → Nat} : ∀ {n : Nat}, (∀ k, k < n → f k ≤ g k) → n_sum f n ≤ n_sum g n
  | 0, _ => Nat.le_refl _
  | n + 1, h => by
    show n_sum f n + f n ≤ n_sum g n + g n
    have := n_sum_mono (f := f) (g := g) (n := n) (fun k hk => h k (by omega))
    have := h n (by omega)
    omega
theorem n_sum_eqs {f g : Nat → Nat} : ∀ {n : Nat}, (∀ k, k < n → f k ≤ g k) → n_sum g n ≤ n_sum f n → ∀ k, k < n → f k = g k
  | 0, _, _, k, hk => by omega
  | n + 1, h, hs, k, hk => by
    have hs : n_sum g n + g n ≤ n_sum f n + f n := hs
    have h1 := n_sum_mono (f := f) (g := g) (n := n) (fun k hk => h k (by omega))
    have h2 := h n (by omega)
    by_cases e : k = n
    · subst e; omega
    · exact n_sum_eqs (f := f) (g := g) (n := n) (fun k hk => h k (by omega)) (by omega) k (by omega)
theorem n_sum_if {p : Prop} [Decidable p] (f : Nat → Nat) (n : Nat) : n_sum (fun i => if p then f i else 0) n = if p then n_sum f n else 0 := by
  by_cases h : p
  · rw [if_pos h]
    exact n_sum_cong (fun k _ => if_pos h)
  · rw [if_neg h]
    exact n_sum_0 (fun k _ => if_neg h)
/-- the cut of a set of rights -/
def g_cut (s : Nat) (GS U D : Nat → Nat) (S : Nat) : Nat := n_sum (fun c => if S.testBit c = true then U c else 0) 10 + n_sum (fun i => if GS i &&& (S ^^^ 1023) = 0 then 0 else D i) s
/-- the part of i that lies in S, with its demand where it can go out of S -/
def g_part (GS D : Nat → Nat) (GV : Nat → Nat → Nat) (S i : Nat) : Nat := (if GS i &&& (S ^^^ 1023) = 0 then 0 else D i) + n_sum (fun c => if S.testBit c = true then GV i c else 0) 10
theorem g_part_ge {GS D G : Nat → Nat} {GV : Nat → Nat → Nat} {i : Nat} (S : Nat) (hg : n_sum (GV i) 10 = G i) (hs : ∀ c, c < 10 → 0 < GV i c → (GS i).testBit c = true) (hb : GS i < 1024) (hd : G i ≤ D i) : G i ≤ g_part GS D GV S i := by
  unfold g_part
  by_cases h : GS i &&& (S ^^^ 1023) = 0
  · rw [if_pos h, Nat.zero_add, ← hg]
    have hsub := (g_sub_iff hb).mp h
    refine n_sum_mono (fun c hc => ?_)
    by_cases hz : GV i c = 0
    · rw [hz]; exact Nat.zero_le _
    · rw [if_pos (hsub c hc (hs c hc (by omega)))]
      exact Nat.le_refl _
  · rw [if_neg h]
    omega
theorem g_part_sum (s : Nat) (GS D : Nat → Nat) (GV : Nat → Nat → Nat) (S : Nat) : n_sum (g_part GS D GV S) s = n_sum (fun i => if GS i &&& (S ^^^ 1023) = 0 then 0 else D i) s + n_sum (fun c => if S.testBit c = true then n_sum (fun i => GV i c) s else 0) 10 := by
  unfold g_part
  rw [n_sum_add, n_sum_swap]
  congr 1
  exact n_sum_cong (fun c _ => n_sum_if _ _)
theorem g_weak {s : Nat} {GS U D G : Nat → Nat} {GV : Nat → Nat → Nat} (S : Nat) (hg : ∀ i, i < s → n_sum (GV i) 10 = G i) (hs : ∀ i c, i < s → c < 10 → 0 < GV i c → (GS i).testBit c = true) (hb : ∀ i, i < s → GS i < 1024) (hd : ∀ i, i < s → G i ≤ D i) (hc : ∀ c, c < 10 → n_sum (fun i => GV i c) s ≤ U c) : n_sum G s ≤ g_cut s GS U D S := by
  have h1 : n_sum G s ≤ n_sum (g_part GS D GV S) s := n_sum_mono (fun i hi => g_part_ge S (hg i hi) (fun c => hs i c hi) (hb i hi) (hd i hi))
  rw [g_part_sum] at h1
  have h2 : n_sum (fun c => if S.testBit c = true then n_sum (fun i => GV i c) s else 0) 10 ≤ n_sum (fun c => if S.testBit c = true then U c else 0) 10 := n_sum_mono (fun c hc9 => by
    split
    · exact hc c hc9
    · exact Nat.le_refl _)
  unfold g_cut
  omega
/-- the sum is some cut -/
def g_tight (s : Nat) (GS U D G : Nat → Nat) : Prop := ∃ S, S < 1024 ∧ n_sum G s = g_cut s GS U D S
theorem g_tight0 (GS U D G : Nat → Nat) : g_tight 0 GS U D G := ⟨0, by omega, by
  unfold g_cut
  show 0 = n_sum (fun c => if (0 : Nat).testBit c = true then U c else 0) 10 + 0
  rw [n_sum_0 (fun k _ => by rw [Nat.zero_testBit]; rfl)]⟩
theorem g_cut_succ (s : Nat) (GS U D : Nat → Nat) (S : Nat) : g_cut (s + 1) GS U D S = g_cut s GS U D S + (if GS s &&& (S ^^^ 1023) = 0 then 0 else D s) := by
  unfold g_cut
  show _ + (n_sum _ s + (if GS s &&& (S ^^^ 1023) = 0 then 0 else D s)) = _
  omega
theorem g_tight_step {s : Nat} {GS UL U D G : Nat → Nat} {GV : Nat → Nat → Nat} (H : g_flow (s + 1) GS UL U GV G) (hd : ∀ i, i < s → G i ≤ D i) (he : g_end s (G s) (D s) GS UL GV) (ht : g_tight s GS U D G) : g_tight (s + 1) GS U D G := by
  obtain ⟨h1, h2, h3, h4, h5⟩ := H
  obtain ⟨S, hS, hT⟩ := ht
  obtain ⟨e1, e2⟩ := he
  have hd' : ∀ i, i < s + 1 → G i ≤ D i := fun i hi => by
    by_cases e : i = s
    · subst e; exact e1
    · exact hd i (by omega)
  have hcol : ∀ c, c < 10 → n_sum (fun i => GV i c) (s + 1) ≤ U c := fun c hc => by have := h3 c hc; omega
  have hsum : n_sum G (s + 1) = n_sum G s + G s := rfl
  rcases e2 with e2 | ⟨b, hb, e2, e3⟩
  · refine ⟨S, hS, ?_⟩
    have hw := g_weak (D := D) S h1 h2 h4 hd' hcol
    have hc := g_cut_succ s GS U D S
    split at hc <;> omega
  · -- the tight cut's own facts, of the first s needs
    have hcol0 : ∀ c, c < 10 → n_sum (fun i => GV i c) s ≤ U c := fun c hc => by
      have := hcol c hc
      have e : n_sum (fun i => GV i c) (s + 1) = n_sum (fun i => GV i c) s + GV s c := rfl
      omega
    have hpge : ∀ i, i < s → G i ≤ g_part GS D GV S i := fun i hi => g_part_ge S (h1 i (by omega)) (fun c => h2 i c (by omega)) (h4 i (by omega)) (hd i hi)
    have hps := g_part_sum s GS D GV S
    have hcm : n_sum (fun c => if S.testBit c = true then n_sum (fun i => GV i c) s else 0) 10 ≤ n_sum (fun c => if S.testBit c = true then U c else 0) 10 := n_sum_mono (fun c hc9 => by
      split
      · exact hcol0 c hc9
      · exact Nat.le_refl _)
    have hT' : n_sum G s = n_sum (fun c => if S.testBit c = true then U c else 0) 10 + n_sum (fun i => if GS i &&& (S ^^^ 1023) = 0 then 0 else D i) s := hT
    have hge := n_sum_mono hpge
    have hpe := n_sum_eqs hpge (by omega)
    have hce := n_sum_eqs (f := fun c => if S.testBit c = true then n_sum (fun i => GV i c) s else 0) (g := fun c => if S.testBit c = true then U c else 0) (n := 10) (fun c hc9 => by
      split
      · exact hcol0 c hc9
      · exact Nat.le_refl _) (by omega)
    have hsb : ∀ c, (S ||| b).testBit c = (S.testBit c || b.testBit c) := fun c => Nat.testBit_or _ _ _
    refine ⟨S ||| b, Nat.or_lt_two_pow (n := 10) hS hb, Nat.le_antisymm (g_weak (S ||| b) h1 h2 h4 hd' hcol) ?_⟩
    -- every right of the set is used up
    have hfull : ∀ c, c < 10 → (S ||| b).testBit c = true → n_sum (fun i => GV i c) (s + 1) = U c := by
      intro c hc hbit
      rw [hsb] at hbit
      by_cases hS1 : S.testBit c = true
      · have := hce c hc
        rw [if_pos hS1, if_pos hS1] at this
        have := hcol c hc
        have e : n_sum (fun i => GV i c) (s + 1) = n_sum (fun i => GV i c) s + GV s c := rfl
        omega
      · have hb1 : b.testBit c = true := by
          cases hx : S.testBit c with
          | true => exact absurd hx hS1
          | false => rw [hx, Bool.false_or] at hbit; exact hbit
        have := (e3 c hc hb1).1
        have := h3 c hc
        omega
    -- a need that can go out of the set has its demand, and nothing in the set
    have hout : ∀ i, i < s + 1 → ¬ GS i &&& ((S ||| b) ^^^ 1023) = 0 → G i = D i ∧ ∀ c, c < 10 → (S ||| b).testBit c = true → GV i c = 0 := by
      intro i hi hno
      have hns : ¬ g_sub (GS i) (S ||| b) := fun z => hno ((g_sub_iff (h4 i hi)).mpr z)
      have hi2 : i < s := by
        by_cases e : i = s
        · subst e
          exact absurd (fun x hx hbx => by rw [hsb, e2 x hx hbx, Bool.or_true]) hns
        · omega
      have hns2 : ¬ GS i &&& (S ^^^ 1023) = 0 := fun z => hns (fun x hx hbx => by rw [hsb, (g_sub_iff (h4 i hi)).mp z x hx hbx, Bool.true_or])
      have hp := hpe i hi2
      unfold g_part at hp
      rw [if_neg hns2] at hp
      have hdi := hd i hi2
      have hz : n_sum (fun c => if S.testBit c = true then GV i c else 0) 10 = 0 := by omega
      refine ⟨by omega, fun c hc hbit => ?_⟩
      rw [hsb] at hbit
      by_cases hS1 : S.testBit c = true
      · have := n_sum_ge (f := fun c => if S.testBit c = true then GV i c else 0) (k := c) (n := 10) hc
        rw [if_pos hS1] at this
        omega
      · have hb1 : b.testBit c = true := by
          cases hx : S.testBit c with
          | true => exact absurd hx hS1
          | false => rw [hx, Bool.false_or] at hbit; exact hbit
        rcases Nat.eq_zero_or_pos (GV i c) with z | z
        · exact z
        · have := (e3 c hc hb1).2 i hi2 z
          exact absurd (fun x hx hbx => by rw [hsb, this x hx hbx, Bool.or_true]) hns
    have hle : n_sum (g_part GS D GV (S ||| b)) (s + 1) ≤ n_sum G (s + 1) := n_sum_mono (fun i hi => by
      unfold g_part
      by_cases hno : GS i &&& ((S ||| b) ^^^ 1023) = 0
      · rw [if_pos hno, Nat.zero_add, ← h1 i hi]
        exact n_sum_mono (fun c _ => by split; exact Nat.le_refl _; exact Nat.zero_le _)
      · obtain ⟨o1, o2⟩ := hout i hi hno
        rw [if_neg hno, n_sum_0 (fun c hc => by
          split
          · rename_i hx; exact o2 c hc hx
          · rfl)]
        omega)
    rw [g_part_sum] at hle
    have hfc : n_sum (fun c => if (S ||| b).testBit c = true then n_sum (fun i => GV i c) (s + 1) else 0) 10 = n_sum (fun c => if (S ||| b).testBit c = true then U c else 0) 10 := n_sum_cong (fun c hc => by
      split
      · rename_i hx; exact hfull c hc hx
      · rfl)
    unfold g_cut
    omega
