/-! ODDS -/
def chp (a c l : Nat) : Nat → Nat
  | 0 => 1
  | n + 1 => chp a c l n * (if n < l then a else c)
def mpr (F : Nat) (b : Bk) (a c x : Nat) : Nat → Nat
  | 0 => 1
  | n + 1 => mpr F b a c x n * (if (b.2 n).2.2 = 2 then (if lgh F (b.2 n) x = 1 then a else c) else 1)
def unh (b : Bk) (n : Nat) : Nat := fb_ct (fun k => decide ((b.2 k).2.2 = 2)) n
theorem chp_pow {a c l : Nat} : ∀ n, chp a c l n = a ^ (min n l) * c ^ (n - l) := by
  intro n
  induction n with
  | zero => rw [chp, Nat.zero_min, Nat.zero_sub]; rfl
  | succ n ih =>
    rw [chp, ih]
    by_cases h : n < l
    · rw [if_pos h, show min (n + 1) l = min n l + 1 by omega, show n + 1 - l = n - l by omega, Nat.pow_succ, Nat.mul_right_comm]
    · rw [if_neg h, show min (n + 1) l = min n l by omega, show n + 1 - l = (n - l) + 1 by omega, Nat.pow_succ, Nat.mul_assoc]
theorem mpr_pow {F a c x : Nat} {b : Bk} : ∀ n, fb_ct (fun k => decide ((b.2 k).2.2 = 2 ∧ lgh F (b.2 k) x = 1)) n ≤ unh b n ∧ mpr F b a c x n = a ^ (fb_ct (fun k => decide ((b.2 k).2.2 = 2 ∧ lgh F (b.2 k) x = 1)) n) * c ^ (unh b n - fb_ct (fun k => decide ((b.2 k).2.2 = 2 ∧ lgh F (b.2 k) x = 1)) n) := by
  intro n
  induction n with
  | zero => exact ⟨Nat.le_refl _, rfl⟩
  | succ n ih =>
    obtain ⟨i1, i2⟩ := ih
    unfold unh at i1 i2 ⊢
    rw [mpr, i2, fb_ct_succ, fb_ct_succ]
    generalize fb_ct (fun k => decide ((b.2 k).2.2 = 2 ∧ lgh F (b.2 k) x = 1)) n = p at *
    generalize fb_ct (fun k => decide ((b.2 k).2.2 = 2)) n = u at *
    by_cases h2 : (b.2 n).2.2 = 2
    · by_cases h1 : lgh F (b.2 n) x = 1
      · rw [if_pos h2, if_pos h1, if_pos (decide_eq_true ⟨h2, h1⟩), if_pos (decide_eq_true h2)]
        refine ⟨by omega, ?_⟩
        rw [show u + 1 - (p + 1) = u - p by omega, Nat.pow_succ, Nat.mul_right_comm]
      · rw [if_pos h2, if_neg h1, if_neg (fun z => h1 (of_decide_eq_true z).2), if_pos (decide_eq_true h2)]
        refine ⟨by omega, ?_⟩
        rw [show u + 1 - (p + 0) = (u - p) + 1 by omega, Nat.pow_succ, Nat.mul_assoc, Nat.add_zero]
    · rw [if_neg h2, if_neg (fun z => h2 (of_decide_eq_true z).1), if_neg (fun z => h2 (of_decide_eq_true z))]
      exact ⟨i1, by rw [Nat.mul_one, Nat.add_zero, Nat.add_zero]⟩
theorem mpr_chp {F a c x : Nat} {b : Bk} (hb : b.1 ≤ 12) : mpr F b a c x b.1 = chp a c (pop (lau F b x)) (unh b b.1) ∧ pop (lau F b x) ≤ unh b b.1 := by
  obtain ⟨h1, h2⟩ := mpr_pow (F := F) (a := a) (c := c) (x := x) (b := b) b.1
  have e : pop (lau F b x) = fb_ct (fun k => decide ((b.2 k).2.2 = 2 ∧ lgh F (b.2 k) x = 1)) b.1 := pop_bsum _ hb
  rw [h2, chp_pow, e]
  exact ⟨by rw [Nat.min_eq_right h1], h1⟩
theorem chp_le {a c l : Nat} (ha : a ≤ 8) (hc : c ≤ 8) : ∀ n, chp a c l n ≤ 8 ^ n := by
  intro n
  induction n with
  | zero => exact Nat.le_refl _
  | succ n ih =>
    rw [chp, Nat.pow_succ]
    exact Nat.mul_le_mul ih (by split <;> assumption)
theorem chp_pos {a c l : Nat} (ha : 1 ≤ a) (hc : 1 ≤ c) : ∀ n, 1 ≤ chp a c l n := by
  intro n
  induction n with
  | zero => exact Nat.le_refl _
  | succ n ih =>
    rw [chp]
    exact Nat.mul_le_mul ih (show 1 ≤ (if n < l then a else c) by split <;> assumption)
theorem chp_lt {a c l n : Nat} (ha : a ≤ 8) (hc : c ≤ 8) (hn : n ≤ 12) : chp a c l n ≤ 68719476736 :=
  Nat.le_trans (chp_le ha hc n) (Nat.le_trans (Nat.pow_le_pow_right (by decide) hn) (by decide))
theorem unh_le {b : Bk} (hb : b.1 ≤ 12) : unh b b.1 ≤ 12 := Nat.le_trans (fb_ct_le _ _) hb
/-- all chances, and those with a laugh in a line -/
def tAll (T F : Nat) (b : Bk) (a c : Nat) : Nat := fb_sm (fun x => if lf T F b x = true then chp a c (pop (lau F b x)) (unh b b.1) else 0) 10000
def tNum (T F : Nat) (b : Bk) (a c k : Nat) : Nat := fb_sm (fun x => if lf T F b x = true then (if lgh F (b.2 k) x = 1 then chp a c (pop (lau F b x)) (unh b b.1) else 0) else 0) 10000
theorem sm_mulr (f : Nat → Nat) (h : Nat) : ∀ n, fb_sm f n * h = fb_sm (fun x => f x * h) n := by
  intro n
  induction n with
  | zero => exact Nat.zero_mul _
  | succ n ih => rw [fb_sm_succ, fb_sm_succ, Nat.add_mul, ih]
theorem fib_h {T F : Nat} {b : Bk} (g h : Nat → Nat) : fb_sm (fun l => fb_sm (fun x => if lf T F b x = true ∧ pop (lau F b x) = l then g x else 0) 10000 * h l) 13 = fb_sm (fun x => if lf T F b x = true then g x * h (pop (lau F b x)) else 0) 10000 := by
  refine Eq.trans (fb_sm_cong (fun l _ => ?_)) (sm_fib (n := 10000) (m := 13) (lf T F b) (fun x => pop (lau F b x)) (fun x => g x * h (pop (lau F b x))) (fun x _ => by have := pop_le (lau F b x); omega))
  rw [sm_mulr]
  refine fb_sm_cong (fun x _ => ?_)
  by_cases e : lf T F b x = true ∧ pop (lau F b x) = l
  · rw [if_pos e, if_pos e, e.2]
  · rw [if_neg e, if_neg e, Nat.zero_mul]
theorem all_fib {T F a c : Nat} {b : Bk} : fb_sm (fun l => fb_sm (gL T F b l) 10000 * chp a c l (unh b b.1)) 13 = tAll T F b a c := by
  refine (fib_h (fun _ => 1) (fun l => chp a c l (unh b b.1))).trans (fb_sm_cong (fun x _ => ?_))
  rw [Nat.one_mul]
theorem num_fib {T F a c k : Nat} {b : Bk} (hk : k < b.1) (hu : (b.2 k).2.2 = 2) : fb_sm (fun l => fb_sm (gU T F b k l) 10000 * chp a c l (unh b b.1)) 13 = tNum T F b a c k := by
  refine (fib_h (fun x => bt2 (lau F b x) k) (fun l => chp a c l (unh b b.1))).trans (fb_sm_cong (fun x _ => ?_))
  rw [lau_bit hk hu]
  by_cases h1 : lgh F (b.2 k) x = 1
  · rw [if_pos h1, if_pos h1, Nat.one_mul]
  · rw [if_neg h1, if_neg h1, Nat.zero_mul]
theorem num_u0 {T F a c k : Nat} {b : Bk} (hu : (b.2 k).2.2 = 0) : tNum T F b a c k = 0 := by
  refine sm_none (fun x _ => ?_)
  by_cases h : lf T F b x = true
  · rw [if_pos h, if_neg ?_]
    unfold lgh lgl
    rw [hu]
    split
    · simp
    · split <;> simp
  · rw [if_neg h]
theorem num_u1 {T F a c k : Nat} {b : Bk} (hk : k < b.1) (hu : (b.2 k).2.2 = 1) : tNum T F b a c k = tAll T F b a c := by
  refine fb_sm_cong (fun x _ => ?_)
  by_cases h : lf T F b x = true
  · rw [if_pos h, if_pos h, if_pos ?_]
    have h2 := mis_0.mp (lf_mis h) k hk
    revert h2
    unfold lgh lgl
    rw [hu]
    split
    · simp
    · split <;> simp
  · rw [if_neg h, if_neg h]
theorem tAll_lt {T F a c : Nat} {b : Bk} (ha : a ≤ 8) (hc : c ≤ 8) (hb : b.1 ≤ 12) : tAll T F b a c ≤ 687194767360000 := by
  have := fb_sm_bound (f := fun x => if lf T F b x = true then chp a c (pop (lau F b x)) (unh b b.1) else 0) (c := 68719476736) (n := 10000) (fun x _ => by
    split
    · exact chp_lt ha hc (unh_le hb)
    · decide)
  unfold tAll
  omega
theorem tNum_le {T F a c k : Nat} {b : Bk} : tNum T F b a c k ≤ tAll T F b a c := by
  refine fb_sm_le (fun x _ => ?_)
  split
  · split
    · exact Nat.le_refl _
    · exact Nat.zero_le _
  · exact Nat.le_refl _
theorem tAll_pos {T F a c : Nat} {b : Bk} (ha : 1 ≤ a) (hc : 1 ≤ c) : fb_sm (gA T F b) 10000 ≤ tAll T F b a c := by
  refine fb_sm_le (fun x _ => ?_)
  unfold gA
  split
  · exact chp_pos ha hc _
  · exact Nat.le_refl _
theorem tAll_0 {T F a c : Nat} {b : Bk} (h : fb_sm (gA T F b) 10000 = 0) : tAll T F b a c = 0 := by
  refine sm_none (fun x hx => if_neg (fun z => ?_))
  have := fb_sm_zero h x hx
  unfold gA at this
  rw [if_pos z] at this
  cases this
/-- the class's chances -/
theorem X_unheard {T F N : Nat} {b : Bk} {S : Mem} (hX : XSt T F b S) (hG : GSt T F b) (hN : 20 < N) : f0_unheardLines_15 N S = some (nI (unh b b.1)) := by
  have hb := hG.2.2.2.1
  unfold f0_unheardLines_15 f0_unheardLines_15_b30
  have k := lp_seq (f := fun s : Int32 × Int32 => f0_unheardLines_15_L4 N s.1 s.2 S) (fun i => (nI (unh b i), nI i)) (r := nI (unh b b.1)) (N := N) b.1 (fun i hi => ?_) ?_ (by omega)
  · rw [show ((0 : Int32), (0 : Int32)) = (nI (unh b 0), nI 0) from rfl, k, bnp_ok]
  · dsimp only
    unfold f0_unheardLines_15_L4 f0_unheardLines_15_b24
    obtain ⟨-, -, hu⟩ := hG.2.2.2.2 i hi
    rw [hX.2.2.1, if_neg (nI_ge hi (by omega)), (X_line hX hG hi).2.2, bnp_ok]
    unfold unh
    rw [fb_ct_succ]
    by_cases e : (b.2 i).2.2 = 2
    · rw [if_pos (show nI (b.2 i).2.2 = 2 by rw [e]; rfl), if_pos (decide_eq_true e), lt_ok, lt_ok, nI_1, nI_1]
    · rw [if_neg (show ¬ nI (b.2 i).2.2 = 2 from ne_nI (b := 2) (by omega) (by decide) e), if_neg (fun z => e (of_decide_eq_true z)), lt_ok, nI_1]
      rfl
  · dsimp only
    unfold f0_unheardLines_15_L4
    rw [hX.2.2.1, if_pos (nI_le (Nat.le_refl _) (by omega))]
theorem X_chance {T F N l a c : Nat} {b : Bk} {S : Mem} (hX : XSt T F b S) (hG : GSt T F b) (hN : 20 < N) (hl : l < 13) (ha : a < 100) (hc : c < 100) : f8_chance N (nI l) (nI a) (nI (a + c)) S = some (lN (chp a c l (unh b b.1))) := by
  have hb := unh_le hG.2.2.2.1
  unfold f8_chance f8_chance_b48
  rw [X_unheard hX hG hN, bnp_ok]
  have k := lp_seq (f := fun s : Int64 × Int32 => f8_chance_L15 N (nI l) (nI a) (nI (a + c)) (nI (unh b b.1)) s.1 s.2 S) (fun i => (lN (chp a c l i), nI i)) (r := lN (chp a c l (unh b b.1))) (N := N) (unh b b.1) (fun i hi => ?_) ?_ (by omega)
  · rw [show ((1 : Int64), (0 : Int32)) = (lN (chp a c l 0), nI 0) from rfl, k, bnp_ok]
  · dsimp only
    unfold f8_chance_L15 f8_chance_b39
    rw [if_neg (nI_ge hi (by omega)), pk_sub (by omega), show a + c - a = c by omega, nI_l (by omega), nI_l (by omega), chp]
    by_cases e : i < l
    · rw [if_neg (nI_ge e (by omega)), if_pos e, lt_ok, lt_ok, nI_1, lN_mul]
    · rw [if_pos (nI_le (by omega) (by omega)), if_neg e, lt_ok, lt_ok, nI_1, lN_mul]
  · dsimp only
    unfold f8_chance_L15
    rw [if_pos (nI_le (Nat.le_refl _) (by omega))]
theorem X_all {T F N a c : Nat} {b : Bk} {S : Mem} (hX : XSt T F b S) (hG : GSt T F b) (hT : TB T F b S) (hN : 20 < N) (ha : a < 100) (hc : c < 100) : f8_allChances N (nI a) (nI (a + c)) S = some (lN (tAll T F b a c)) := by
  unfold f8_allChances f8_allChances_b40
  have k := lp_seq (f := fun s : Int64 × Int32 => f8_allChances_L5 N (nI a) (nI (a + c)) s.1 s.2 S) (fun i => (lN (fb_sm (fun l => fb_sm (gL T F b l) 10000 * chp a c l (unh b b.1)) i), nI i)) (r := lN (tAll T F b a c)) (N := N) 13 (fun i hi => ?_) ?_ (by omega)
  · rw [show ((0 : Int64), (0 : Int32)) = (lN (fb_sm (fun l => fb_sm (gL T F b l) 10000 * chp a c l (unh b b.1)) 0), nI 0) from rfl, k, bnp_ok]
  · dsimp only
    unfold f8_allChances_L5
    have hle : fb_sm (gL T F b i) 10000 ≤ 10000 := by
      have := fb_sm_bound (f := gL T F b i) (c := 1) (n := 10000) (fun k _ => by unfold gL; split <;> decide)
      omega
    rw [if_neg (show ¬ (13 : Int32) ≤ nI i from nI_ge (b := 13) hi (by decide)), f5_get_in hi (by decide), bnp_ok, X_chance hX hG hN hi ha hc, bnp_ok, hT.2.2.2.2.2.2.1 i hi, nI_l (by omega), lt_ok, lt_ok, lN_mul, lN_add, nI_1, fb_sm_succ (fun l => fb_sm (gL T F b l) 10000 * chp a c l (unh b b.1)) i]
  · dsimp only
    unfold f8_allChances_L5
    rw [if_pos (by decide), all_fib]
theorem X_num {T F N a c k : Nat} {b : Bk} {S : Mem} (hX : XSt T F b S) (hG : GSt T F b) (hT : TB T F b S) (hk : k < b.1) (hN : 20 < N) (ha : a < 100) (hc : c < 100) : f8_chances N (nI k) (nI a) (nI (a + c)) S = some (lN (tNum T F b a c k)) := by
  have hb := hG.2.2.2.1
  obtain ⟨-, -, hu2⟩ := hG.2.2.2.2 k hk
  unfold f8_chances f8_chances_b83
  rw [(X_line hX hG hk).2.2, bnp_ok, bnp_ok, X_all hX hG hT hN ha hc]
  rcases (show (b.2 k).2.2 = 0 ∨ (b.2 k).2.2 = 1 ∨ (b.2 k).2.2 = 2 by omega) with hu | hu | hu
  · rw [hu, if_neg (by decide), if_neg (by decide), num_u0 hu]
    rfl
  · rw [hu, if_neg (by decide), if_pos (by decide), bnp_ok, num_u1 hk hu]
  · rw [hu, if_pos (show nI 2 = 2 from rfl)]
    have kk := lp_seq (f := fun s : Int64 × Int32 => f8_chances_L41 N (nI k) (nI a) (nI (a + c)) s.1 s.2 S) (fun i => (lN (fb_sm (fun l => fb_sm (gU T F b k l) 10000 * chp a c l (unh b b.1)) i), nI i)) (r := lN (tNum T F b a c k)) (N := N) 13 (fun i hi => ?_) ?_ (by omega)
    · rw [show ((0 : Int64), (0 : Int32)) = (lN (fb_sm (fun l => fb_sm (gU T F b k l) 10000 * chp a c l (unh b b.1)) 0), nI 0) from rfl, kk, bnp_ok]
    · dsimp only
      unfold f8_chances_L41
      have hle : fb_sm (gU T F b k i) 10000 ≤ 10000 := by
        have := fb_sm_bound (f := gU T F b k i) (c := 1) (n := 10000) (fun x _ => by
          unfold gU
          have := bt2_lt (lau F b x) k
          split <;> omega)
        omega
      rw [if_neg (show ¬ (13 : Int32) ≤ nI i from nI_ge (b := 13) hi (by decide)), show (13 : Int32) = nI 13 from rfl, pk_mul, nI_add, f5_get_in (by omega) (by decide), bnp_ok, X_chance hX hG hN hi ha hc, bnp_ok, hT.2.2.2.2.2.2.2 k i (by omega) hi, nI_l (by omega), lt_ok, lt_ok, lN_mul, lN_add, nI_1, fb_sm_succ (fun l => fb_sm (gU T F b k l) 10000 * chp a c l (unh b b.1)) i]
    · dsimp only
      unfold f8_chances_L41
      rw [if_pos (by decide), num_fib hk hu]
/-! THE GREATEST DIVISOR -/
def est (p : Nat × Nat) : Nat × Nat := if p.2 = 0 then p else (p.2, p.1 % p.2)
def eit : Nat → Nat × Nat → Nat × Nat
  | 0, p => p
  | n + 1, p => eit n (est p)
theorem eit_0 {p : Nat × Nat} (h : p.2 = 0) : ∀ n, eit n p = p := by
  intro n
  induction n with
  | zero => rfl
  | succ n ih =>
    rw [eit, est, if_pos h]
    exact ih
theorem eit_half : ∀ k (p : Nat × Nat), p.2 < 2 ^ k → (eit (2 * k) p).2 = 0 := by
  intro k
  induction k with
  | zero => intro p h; exact Nat.lt_one_iff.mp h
  | succ k ih =>
    intro p h
    rw [show 2 * (k + 1) = 2 * k + 1 + 1 by omega, eit, eit]
    by_cases h0 : p.2 = 0
    · have e : est p = p := by rw [est, if_pos h0]
      rw [e, e, eit_0 h0]; exact h0
    · have e : est p = (p.2, p.1 % p.2) := by rw [est, if_neg h0]
      rw [e]
      by_cases h1 : p.1 % p.2 = 0
      · have e2 : est (p.2, p.1 % p.2) = (p.2, p.1 % p.2) := by rw [est, if_pos h1]
        rw [e2, eit_0 h1]; exact h1
      · have e2 : est (p.2, p.1 % p.2) = (p.1 % p.2, p.2 % (p.1 % p.2)) := by rw [est, if_neg h1]
        rw [e2]
        refine ih _ ?_
        have m1 := Nat.mod_lt p.1 (show 0 < p.2 by omega)
        have m2 := Nat.mod_lt p.2 (show 0 < p.1 % p.2 by omega)
        show p.2 % (p.1 % p.2) < 2 ^ k
        have h2 : p.2 % (p.1 % p.2) + (p.1 % p.2) ≤ p.2 := by
          have d := Nat.div_add_mod p.2 (p.1 % p.2)
          have q : 1 ≤ p.2 / (p.1 % p.2) := (Nat.one_le_div_iff (by omega)).mpr (by omega)
          have := Nat.mul_le_mul_left (p.1 % p.2) q
          rw [Nat.mul_one] at this
          omega
        rw [Nat.pow_succ] at h
        omega
theorem eit_pos : ∀ n (p : Nat × Nat), (0 < p.2 ∨ 0 < p.1) → 0 < (eit n p).2 ∨ 0 < (eit n p).1 := by
  intro n
  induction n with
  | zero => intro p h; exact h
  | succ n ih =>
    intro p h
    rw [eit]
    refine ih _ ?_
    unfold est
    split
    · exact h
    · exact Or.inr (by show 0 < p.2; omega)
theorem eit_le : ∀ n (p : Nat × Nat) m, p.1 ≤ m → p.2 ≤ m → (eit n p).1 ≤ m ∧ (eit n p).2 ≤ m := by
  intro n
  induction n with
  | zero => intro p m h1 h2; exact ⟨h1, h2⟩
  | succ n ih =>
    intro p m h1 h2
    rw [eit]
    unfold est
    split
    · exact ih p m h1 h2
    · exact ih _ m h2 (Nat.le_trans (Nat.le_of_lt (Nat.mod_lt _ (by omega))) h2)
def gcdE (x y : Nat) : Nat := (eit 100 (x, y)).1
theorem lc0 {y : Nat} (h : y < 2 ^ 63) : (lg_cmp (lN y) (0 : Int64) = 0) = (y = 0) := by
  rw [lg_cmp_eq]
  exact propext (pk_lEQ (b := 0) h (by decide))
theorem gcd_lp {f : Int64 × Int64 × Int32 → Option ((Int64 × Int64 × Int32) ⊕ Int64)} (hf : ∀ x y i, x < 2 ^ 50 → y < 2 ^ 50 → i ≤ 100 → f (lN x, lN y, nI i) = if 100 ≤ i then some (.inr (lN x)) else if y = 0 then some (.inr (lN x)) else some (.inl (lN y, lN (x % y), nI (i + 1)))) : ∀ n M x y, x < 2 ^ 50 → y < 2 ^ 50 → n ≤ 100 → n < M → lp M f (lN x, lN y, nI (100 - n)) = some (lN (eit n (x, y)).1) := by
  intro n
  induction n with
  | zero =>
    intro M x y hx hy hn hM
    obtain ⟨M, rfl⟩ : ∃ M', M = M' + 1 := ⟨M - 1, by omega⟩
    exact lp_E (by rw [hf x y _ hx hy (by omega), if_pos (by omega)]; rfl)
  | succ n ih =>
    intro M x y hx hy hn hM
    obtain ⟨M, rfl⟩ : ∃ M', M = M' + 1 := ⟨M - 1, by omega⟩
    by_cases h0 : y = 0
    · rw [eit_0 (p := (x, y)) h0]
      exact lp_E (by rw [hf x y _ hx hy (by omega), if_neg (by omega), if_pos h0])
    · have e : f (lN x, lN y, nI (100 - (n + 1))) = some (.inl (lN y, lN (x % y), nI (100 - n))) := by
        rw [hf x y _ hx hy (by omega), if_neg (by omega), if_neg h0, show 100 - (n + 1) + 1 = 100 - n by omega]
      rw [lp_S e, ih M y (x % y) hy (Nat.lt_of_lt_of_le (Nat.mod_lt _ (by omega)) (by omega)) (by omega) (by omega)]
      rw [eit, est, if_neg h0]
theorem gcd_lp2 {f : Int64 × Int64 → Option ((Int64 × Int64) ⊕ Int64)} (hf : ∀ x y, x < 2 ^ 50 → y < 2 ^ 50 → f (lN x, lN y) = if y = 0 then some (.inr (lN x)) else some (.inl (lN y, lN (x % y)))) : ∀ n M x y, x < 2 ^ 50 → y < 2 ^ 50 → (eit n (x, y)).2 = 0 → n < M → lp M f (lN x, lN y) = some (lN (eit n (x, y)).1) := by
  intro n
  induction n with
  | zero =>
    intro M x y hx hy h0 hM
    obtain ⟨M, rfl⟩ : ∃ M', M = M' + 1 := ⟨M - 1, by omega⟩
    have h0 : y = 0 := h0
    exact lp_E (by rw [hf x y hx hy, if_pos h0]; rfl)
  | succ n ih =>
    intro M x y hx hy h0 hM
    obtain ⟨M, rfl⟩ : ∃ M', M = M' + 1 := ⟨M - 1, by omega⟩
    by_cases hy0 : y = 0
    · rw [eit_0 (p := (x, y)) hy0]
      exact lp_E (by rw [hf x y hx hy, if_pos hy0])
    · have e : f (lN x, lN y) = some (.inl (lN y, lN (x % y))) := by rw [hf x y hx hy, if_neg hy0]
      rw [eit, est, if_neg hy0] at h0 ⊢
      rw [lp_S e]
      exact ih M y (x % y) hy (Nat.lt_of_lt_of_le (Nat.mod_lt _ (by omega)) (by omega)) h0 (by omega)
theorem X_gcd {x y N : Nat} {S : Mem} (hx : x < 2 ^ 50) (hy : y < 2 ^ 50) (hN : 100 < N) : f9_greatestDivisor N (lN x) (lN y) S = some (lN (gcdE x y)) := by
  unfold f9_greatestDivisor f9_greatestDivisor_b44
  have h := gcd_lp (f := fun s : Int64 × Int64 × Int32 => f9_greatestDivisor_L9 N s.1 s.2.1 s.2.2 S) (fun x y i hx hy hi => by
    dsimp only
    unfold f9_greatestDivisor_L9
    have e0 : (lN y = (0 : Int64)) = (y = 0) := propext (pk_lEQ (b := 0) (by omega) (by decide))
    by_cases h1 : 100 ≤ i
    · rw [if_pos (show (100 : Int32) ≤ nI i from nI_le (a := 100) h1 (by omega)), if_pos h1]
    · rw [if_neg (show ¬ (100 : Int32) ≤ nI i from nI_ge (b := 100) (by omega) (by decide)), if_neg h1]
      simp only [lc0 (show y < 2 ^ 63 by omega), e0]
      by_cases h0 : y = 0
      · rw [if_pos h0, if_pos h0]
      · rw [if_neg h0, if_neg h0, if_neg h0, pk_lRem (by omega) (by omega) (by omega), lt_ok, lt_ok, nI_1]) 100 N x y hx hy (by omega) hN
  rw [show (lN x, lN y, (0 : Int32)) = (lN x, lN y, nI (100 - 100)) from rfl, h, bnp_ok]
  rfl
theorem M_gcd {x y N : Nat} {S : Mem} (hx : x < 2 ^ 50) (hy : y < 2 ^ 50) (hN : 100 < N) : f10_common N (lN x) (lN y) S = some (lN (gcdE x y)) := by
  unfold f10_common f10_common_b31
  have h := gcd_lp2 (f := fun s : Int64 × Int64 => f10_common_L6 N s.1 s.2 S) (fun x y hx hy => by
    dsimp only
    unfold f10_common_L6
    have e0 : (lN y = (0 : Int64)) = (y = 0) := propext (pk_lEQ (b := 0) (by omega) (by decide))
    simp only [lc0 (show y < 2 ^ 63 by omega), e0]
    by_cases h0 : y = 0
    · rw [if_pos h0, if_pos h0]
    · rw [if_neg h0, if_neg h0, if_neg h0, pk_lRem (by omega) (by omega) (by omega), lt_ok]) 100 N x y hx hy (eit_half 50 (x, y) hy) hN
  rw [h, bnp_ok]
  rfl
theorem gcdE_pos {x y : Nat} (hx : x < 2 ^ 50) (hy : y < 2 ^ 50) (h : 0 < y) : 0 < gcdE x y ∧ gcdE x y < 2 ^ 50 := by
  have h1 := eit_pos 100 (x, y) (Or.inl h)
  have h2 : (eit 100 (x, y)).2 = 0 := eit_half 50 (x, y) hy
  have h3 := (eit_le 100 (x, y) (2 ^ 50 - 1) (by dsimp only; omega) (by dsimp only; omega)).1
  unfold gcdE
  omega
