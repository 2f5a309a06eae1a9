/-! WORLDS: SUMS -/
theorem sm_zero (n : Nat) : fb_sm (fun _ => 0) n = 0 := by rw [fb_sm_const, Nat.mul_zero]
theorem sm_none {f : Nat → Nat} {n : Nat} (h : ∀ k, k < n → f k = 0) : fb_sm f n = 0 := by
  rw [fb_sm_cong (g := fun _ => 0) h]
  exact sm_zero n
theorem sm_one (g : Nat → Nat) {a : Nat} : ∀ {n : Nat}, a < n → fb_sm (fun k => if a = k then g k else 0) n = g a := by
  intro n
  induction n with
  | zero => intro h; omega
  | succ n ih =>
    intro h
    rw [fb_sm_succ]
    by_cases e : a = n
    · rw [if_pos e, sm_none (fun k hk => if_neg (by omega)), e, Nat.zero_add]
    · rw [if_neg e, ih (by omega), Nat.add_zero]
theorem sm_comm (f : Nat → Nat → Nat) (m : Nat) : ∀ n, fb_sm (fun i => fb_sm (fun j => f i j) m) n = fb_sm (fun j => fb_sm (fun i => f i j) n) m := by
  intro n
  induction n with
  | zero => exact (sm_none (fun k _ => rfl)).symm
  | succ n ih =>
    rw [fb_sm_succ, ih, ← fb_sm_add]
    rfl
theorem sm_re {n m : Nat} {φ ψ : Nat → Nat} {V : Nat → Bool} (h1 : ∀ c, c < n → φ c < m ∧ V (φ c) = true ∧ ψ (φ c) = c) (h2 : ∀ x, x < m → V x = true → ψ x < n ∧ φ (ψ x) = x) (g : Nat → Nat) : fb_sm (fun c => g (φ c)) n = fb_sm (fun x => if V x = true then g x else 0) m := by
  have e1 : fb_sm (fun c => g (φ c)) n = fb_sm (fun c => fb_sm (fun x => if φ c = x then g x else 0) m) n :=
    fb_sm_cong (fun c hc => (sm_one g (h1 c hc).1).symm)
  rw [e1, sm_comm]
  refine fb_sm_cong (fun x hx => ?_)
  by_cases hV : V x = true
  · rw [if_pos hV]
    obtain ⟨k1, k2⟩ := h2 x hx hV
    refine Eq.trans ?_ (sm_one (fun _ => g x) k1)
    refine fb_sm_cong (fun c hc => ?_)
    by_cases e : φ c = x
    · rw [if_pos e, if_pos (by rw [← e]; exact (h1 c hc).2.2)]
    · rw [if_neg e, if_neg (fun z => e (by rw [← z]; exact k2))]
  · rw [if_neg hV]
    exact sm_none (fun c hc => if_neg (fun z => hV (by rw [← z]; exact (h1 c hc).2.1)))
/-- sums of powers -/
def bsum (p : Nat → Bool) (n : Nat) : Nat := fb_sm (fun k => if p k = true then 2 ^ k else 0) n
theorem bsum_lt (p : Nat → Bool) : ∀ n, bsum p n < 2 ^ n := by
  intro n
  induction n with
  | zero => exact (by decide : 0 < 2 ^ 0)
  | succ n ih =>
    unfold bsum at ih ⊢
    rw [fb_sm_succ, Nat.pow_succ]
    split <;> omega
theorem bsum_succ (p : Nat → Bool) (n : Nat) : bsum p (n + 1) = bsum p n ||| (if p n = true then 2 ^ n else 0) := by
  have h := bsum_lt p n
  unfold bsum at h ⊢
  rw [fb_sm_succ]
  split
  · have := Nat.two_pow_add_eq_or_of_lt h 1
    rw [Nat.mul_one] at this
    rw [Nat.add_comm, this, Nat.or_comm]
  · rw [Nat.or_zero, Nat.add_zero]
theorem bsum_bit (p : Nat → Bool) (k : Nat) : ∀ n, (bsum p n).testBit k = (decide (k < n) && p k) := by
  intro n
  induction n with
  | zero => exact Nat.zero_testBit k
  | succ n ih =>
    rw [bsum_succ, Nat.testBit_or, ih]
    by_cases e : k = n
    · subst e
      rw [decide_eq_false (Nat.lt_irrefl k), decide_eq_true (Nat.lt_succ_self k)]
      by_cases hp : p k = true
      · rw [if_pos hp, hp, Nat.testBit_two_pow_self]; rfl
      · rw [if_neg hp, Nat.zero_testBit]
        rw [eq_false_of_ne_true hp]; rfl
    · have e2 : (if p n = true then 2 ^ n else 0).testBit k = false := by
        split
        · rw [Nat.testBit_two_pow_of_ne (fun z => e z.symm)]
        · exact Nat.zero_testBit k
      rw [e2, Bool.or_false]
      congr 1
      by_cases h : k < n
      · rw [decide_eq_true h, decide_eq_true (by omega)]
      · rw [decide_eq_false h, decide_eq_false (by omega)]
theorem bt2_bit (n i : Nat) : bt2 n i = if n.testBit i = true then 1 else 0 := by
  unfold bt2
  rw [Nat.testBit_eq_decide_div_mod_eq]
  by_cases h : n / 2 ^ i % 2 = 1
  · rw [decide_eq_true h, if_pos rfl, h]
  · rw [decide_eq_false h, if_neg (by decide)]
    omega
theorem pop_bsum (p : Nat → Bool) {n : Nat} (hn : n ≤ 12) : pop (bsum p n) = fb_ct p n := by
  unfold pop
  have e : fb_sm (fun i => bt2 (bsum p n) i) 12 = fb_sm (fun i => if (decide (i < n) && p i) = true then 1 else 0) 12 :=
    fb_sm_cong (fun i _ => by rw [bt2_bit, bsum_bit])
  rw [e, show 12 = n + (12 - n) by omega, fb_sm_split]
  rw [sm_none (n := 12 - n) (fun k _ => by rw [decide_eq_false (by omega)]; rfl), Nat.add_zero]
  have : ∀ m, m ≤ n → fb_sm (fun i => if (decide (i < n) && p i) = true then 1 else 0) m = fb_ct p m := by
    intro m
    induction m with
    | zero => intro _; rfl
    | succ m ih =>
      intro hm
      rw [fb_sm_succ, fb_ct_succ, ih (by omega), decide_eq_true (by omega), Bool.true_and]
  exact this n (Nat.le_refl n)
theorem pop_le (n : Nat) : pop n ≤ 12 := by
  unfold pop
  have := fb_sm_bound (f := fun i => bt2 n i) (c := 1) (n := 12) (fun k _ => by have := bt2_lt n k; omega)
  omega
/-- the least, and what all the least have -/
def mst (r : Nat × Nat) (f : Nat) : Nat × Nat := if pop f < r.1 then (pop f, f) else if pop f = r.1 then (r.1, r.2 &&& f) else r
def fo (p : Nat → Bool) (f : Nat → Nat) : Nat → Nat × Nat
  | 0 => (13, 0)
  | n + 1 => if p n = true then mst (fo p f n) (f n) else fo p f n
theorem fo_le {p : Nat → Bool} {f : Nat → Nat} : ∀ n, (fo p f n).1 ≤ 13 := by
  intro n
  induction n with
  | zero => exact Nat.le_refl _
  | succ n ih =>
    rw [fo]
    split
    · unfold mst
      have := pop_le (f n)
      split
      · show pop (f n) ≤ 13
        omega
      · split
        · exact ih
        · exact ih
    · exact ih
def foS (p : Nat → Bool) (f : Nat → Nat) (n : Nat) (r : Nat × Nat) : Prop :=
  ((∀ i, i < n → p i = false) ∧ r = (13, 0)) ∨ ((∃ i, i < n ∧ p i = true ∧ pop (f i) = r.1) ∧ (∀ i, i < n → p i = true → r.1 ≤ pop (f i)) ∧ ∀ k, r.2.testBit k = true ↔ ∀ i, i < n → p i = true → pop (f i) = r.1 → (f i).testBit k = true)
theorem fo_spec (p : Nat → Bool) (f : Nat → Nat) : ∀ n, foS p f n (fo p f n) := by
  intro n
  induction n with
  | zero => exact Or.inl ⟨fun i hi => absurd hi (Nat.not_lt_zero i), rfl⟩
  | succ n ih =>
    rw [fo]
    by_cases hp : p n = true
    · rw [if_pos hp]
      refine Or.inr ?_
      have h12 := pop_le (f n)
      generalize fo p f n = r at ih ⊢
      unfold mst
      rcases ih with ⟨i1, rfl⟩ | ⟨⟨j, j1, j2, j3⟩, i2, i3⟩
      · rw [if_pos (show pop (f n) < 13 by omega)]
        refine ⟨⟨n, by omega, hp, rfl⟩, fun i hi hpi => ?_, fun k => ⟨fun hk i hi hpi _ => ?_, fun h => h n (by omega) hp rfl⟩⟩
        · by_cases e : i = n
          · rw [e]; exact Nat.le_refl _
          · rw [i1 i (by omega)] at hpi; cases hpi
        · by_cases e : i = n
          · rw [e]; exact hk
          · rw [i1 i (by omega)] at hpi; cases hpi
      · by_cases h1 : pop (f n) < r.1
        · rw [if_pos h1]
          refine ⟨⟨n, by omega, hp, rfl⟩, fun i hi hpi => ?_, fun k => ⟨fun hk i hi hpi he => ?_, fun h => h n (by omega) hp rfl⟩⟩
          · by_cases e : i = n
            · rw [e]; exact Nat.le_refl _
            · have := i2 i (by omega) hpi
              show pop (f n) ≤ pop (f i)
              omega
          · by_cases e : i = n
            · rw [e]; exact hk
            · have := i2 i (by omega) hpi
              have he : pop (f i) = pop (f n) := he
              omega
        · rw [if_neg h1]
          by_cases h2 : pop (f n) = r.1
          · rw [if_pos h2]
            refine ⟨⟨j, by omega, j2, j3⟩, fun i hi hpi => ?_, fun k => ?_⟩
            · show r.1 ≤ pop (f i)
              by_cases e : i = n
              · rw [e]; omega
              · exact i2 i (by omega) hpi
            · show (r.2 &&& f n).testBit k = true ↔ _
              rw [Nat.testBit_and, Bool.and_eq_true, i3 k]
              refine ⟨fun ⟨a, b⟩ i hi hpi he => ?_, fun h => ⟨fun i hi hpi he => h i (by omega) hpi he, h n (by omega) hp h2⟩⟩
              by_cases e : i = n
              · rw [e]; exact b
              · exact a i (by omega) hpi he
          · rw [if_neg h2]
            refine ⟨⟨j, by omega, j2, j3⟩, fun i hi hpi => ?_, fun k => ?_⟩
            · by_cases e : i = n
              · rw [e]; omega
              · exact i2 i (by omega) hpi
            · rw [i3 k]
              refine ⟨fun a i hi hpi he => ?_, fun h i hi hpi he => h i (by omega) hpi he⟩
              by_cases e : i = n
              · rw [e] at he; exact absurd he h2
              · exact a i (by omega) hpi he
    · rw [if_neg hp]
      have hp := eq_false_of_ne_true hp
      rcases ih with ⟨i1, i2⟩ | ⟨⟨j, j1, j2, j3⟩, i2, i3⟩
      · refine Or.inl ⟨fun i hi => ?_, i2⟩
        by_cases e : i = n
        · rw [e]; exact hp
        · exact i1 i (by omega)
      · refine Or.inr ⟨⟨j, by omega, j2, j3⟩, fun i hi hpi => ?_, fun k => ?_⟩
        · by_cases e : i = n
          · rw [e, hp] at hpi; cases hpi
          · exact i2 i (by omega) hpi
        · rw [i3 k]
          refine ⟨fun a i hi hpi he => ?_, fun h i hi hpi he => h i (by omega) hpi he⟩
          by_cases e : i = n
          · rw [e, hp] at hpi; cases hpi
          · exact a i (by omega) hpi he
theorem fo_eq {p q : Nat → Bool} {f g : Nat → Nat} {n m : Nat} (h1 : ∀ i, i < n → p i = true → ∃ j, j < m ∧ q j = true ∧ g j = f i) (h2 : ∀ j, j < m → q j = true → ∃ i, i < n ∧ p i = true ∧ f i = g j) : fo p f n = fo q g m := by
  rcases fo_spec p f n with ⟨a1, a2⟩ | ⟨⟨i, i1, i2, i3⟩, a2, a3⟩
  · rcases fo_spec q g m with ⟨b1, b2⟩ | ⟨⟨j, j1, j2, j3⟩, b2, b3⟩
    · rw [a2, b2]
    · obtain ⟨i, i1, i2, -⟩ := h2 j j1 j2
      rw [a1 i i1] at i2; cases i2
  · rcases fo_spec q g m with ⟨b1, b2⟩ | ⟨⟨j, j1, j2, j3⟩, b2, b3⟩
    · obtain ⟨j, j1, j2, -⟩ := h1 i i1 i2
      rw [b1 j j1] at j2; cases j2
    · have e1 : (fo p f n).1 = (fo q g m).1 := by
        obtain ⟨j', c1, c2, c3⟩ := h1 i i1 i2
        obtain ⟨i', d1, d2, d3⟩ := h2 j j1 j2
        have x1 := b2 j' c1 c2
        have x2 := a2 i' d1 d2
        rw [c3] at x1
        rw [d3] at x2
        omega
      refine Prod.ext e1 (Nat.eq_of_testBit_eq (fun k => ?_))
      have iff : (fo p f n).2.testBit k = true ↔ (fo q g m).2.testBit k = true := by
        rw [a3 k, b3 k]
        constructor
        · intro h j j1 j2 j3
          obtain ⟨i, c1, c2, c3⟩ := h2 j j1 j2
          rw [← c3]
          exact h i c1 c2 (by rw [c3, e1]; exact j3)
        · intro h i i1 i2 i3
          obtain ⟨j, c1, c2, c3⟩ := h1 i i1 i2
          rw [← c3]
          exact h j c1 c2 (by rw [c3, ← e1]; exact i3)
      exact Bool.eq_iff_iff.mpr iff
