/-- the bits of a code: by set and load, of the first n lines -/
def cob (F : Nat) (b : Bk) (n s l j : Nat) : Bool := if j < 12 then decide (j < n ∧ (b.2 j).1 = s ∧ lgl F (b.2 j).2.1 (b.2 j).2.2 l = 2) else decide (j - 12 < n ∧ (b.2 (j - 12)).1 = s ∧ (b.2 (j - 12)).2.2 = 2 ∧ lgl F (b.2 (j - 12)).2.1 (b.2 (j - 12)).2.2 l = 1)
def co (F : Nat) (b : Bk) (n s l : Nat) : Nat := bsum (cob F b n s l) 24
theorem cv_bit {F k m j : Nat} {l : Nat × Nat × Nat} : (cv F l k m).testBit j = ((decide (lgl F l.2.1 l.2.2 m = 2) && decide (j = k)) || (decide (l.2.2 = 2 ∧ lgl F l.2.1 l.2.2 m = 1) && decide (j = 12 + k))) := by
  unfold cv
  have p : ∀ (c : Prop) [Decidable c] (i : Nat), (if c then 2 ^ i else 0).testBit j = (decide c && decide (j = i)) := by
    intro c hc i
    by_cases h : c
    · rw [if_pos h, decide_eq_true h, Bool.true_and]
      by_cases e : j = i
      · rw [e, Nat.testBit_two_pow_self, decide_eq_true rfl]
      · rw [Nat.testBit_two_pow_of_ne (fun z => e z.symm), decide_eq_false e]
    · rw [if_neg h, decide_eq_false h, Bool.false_and, Nat.zero_testBit]
  rw [Nat.testBit_or, p, p]
theorem co_succ {F k s l : Nat} {b : Bk} (hk : k < 12) (hs : (b.2 k).1 = s) : co F b k s l ||| cv F (b.2 k) k l = co F b (k + 1) s l := by
  apply Nat.eq_of_testBit_eq
  intro j
  unfold co
  rw [Nat.testBit_or, bsum_bit, bsum_bit, cv_bit]
  by_cases h24 : j < 24
  · rw [decide_eq_true h24, Bool.true_and, Bool.true_and]
    unfold cob
    by_cases h12 : j < 12
    · rw [if_pos h12, if_pos h12, decide_eq_false (show ¬ j = 12 + k by omega), Bool.and_false, Bool.or_false]
      by_cases e : j = k
      · subst e
        simp only [Nat.lt_irrefl, false_and, decide_false, Bool.false_or, decide_true, Bool.and_true, hs, Nat.lt_succ_self, true_and]
      · have h3 : (j < k + 1) = (j < k) := propext (by omega)
        rw [decide_eq_false e, Bool.and_false, Bool.or_false]
        simp only [h3]
    · rw [if_neg h12, if_neg h12, decide_eq_false (show ¬ j = k by omega), Bool.and_false, Bool.false_or]
      by_cases e : j = 12 + k
      · subst e
        rw [show 12 + k - 12 = k by omega]
        simp only [Nat.lt_irrefl, false_and, decide_false, Bool.false_or, decide_true, Bool.and_true, hs, Nat.lt_succ_self, true_and]
      · have h3 : (j - 12 < k + 1) = (j - 12 < k) := propext (by omega)
        rw [decide_eq_false e, Bool.and_false, Bool.or_false]
        simp only [h3]
  · rw [decide_eq_false h24, Bool.false_and, Bool.false_and, Bool.false_or, decide_eq_false (show ¬ j = k by omega), decide_eq_false (show ¬ j = 12 + k by omega), Bool.and_false, Bool.and_false]
    rfl
theorem co_skip {F k s l : Nat} {b : Bk} (hs : (b.2 k).1 ≠ s) : co F b k s l = co F b (k + 1) s l := by
  apply Nat.eq_of_testBit_eq
  intro j
  unfold co
  rw [bsum_bit, bsum_bit]
  congr 1
  unfold cob
  by_cases h12 : j < 12
  · rw [if_pos h12, if_pos h12]
    by_cases e : j = k
    · subst e
      simp only [hs, false_and, and_false]
    · have h3 : (j < k + 1) = (j < k) := propext (by omega)
      simp only [h3]
  · rw [if_neg h12, if_neg h12]
    by_cases e : j - 12 = k
    · simp only [e, hs, false_and, and_false]
    · have h3 : (j - 12 < k + 1) = (j - 12 < k) := propext (by omega)
      simp only [h3]
theorem co_lt {F n s l : Nat} {b : Bk} : co F b n s l < 2 ^ 24 := bsum_lt _ _
theorem ix_ne {s l s' l' : Nat} (hl : l < 37) (hl' : l' < 37) (h : ¬ (s = s' ∧ l = l')) : s * 37 + l ≠ s' * 37 + l' := by
  intro e
  apply h
  omega
theorem X_codes {T F : Nat} {b : Bk} {S : Mem} {N : Nat} (h : XSt T F b S) (hG : GSt T F b) (hN : 300 < N) : ∃ S', f8_writeCodes N S = some ((), S') ∧ (∀ s l, s < 8 → l < 37 → (S' 41).1 (s * 37 + l) = nI (co F b b.1 s l)) ∧ ∀ q, q ≠ 41 → S' q = S q := by
  have hb := hG.2.2.2.1
  obtain ⟨S1, w1, w2, w3⟩ := f5_wipe_ok (N := N) (k := 40) (n := 296) (S := S) (by decide) (by omega)
  unfold f8_writeCodes f8_writeCodes_b66
  rw [w1, bnd_ok]
  obtain ⟨S', k1, k2, k3⟩ := lp_inv (f := fun s : Int32 × Mem => f8_writeCodes_L9 N s.1 s.2) (s := ((0 : Int32), S1)) (N := N)
    (fun i s => s.1 = nI i ∧ (∀ q, q ≠ 41 → s.2 q = S q) ∧ ∀ t l, t < 8 → l < 37 → (s.2 41).1 (t * 37 + l) = nI (co F b i t l))
    (fun S' => (∀ q, q ≠ 41 → S' q = S q) ∧ ∀ s l, s < 8 → l < 37 → (S' 41).1 (s * 37 + l) = nI (co F b b.1 s l)) b.1
    (by
      rintro k ⟨x, U⟩ hk ⟨hx, h1, h2⟩
      dsimp only at hx h1 h2 ⊢
      subst hx
      have hs8 := sx_lt hG.1 (hG.2.2.2.2 k hk).1
      have XU : XSt T F b U := XSt_fl h (FL_one h1 (by decide))
      obtain ⟨V, j1, j2, j3⟩ := lp_inv (f := fun s : Int32 × Mem => f8_writeCodes_L22 N (nI k) s.1 s.2) (s := ((0 : Int32), U)) (N := N)
        (fun i s => s.1 = nI i ∧ (∀ q, q ≠ 41 → s.2 q = S q) ∧ ∀ t l, t < 8 → l < 37 → (s.2 41).1 (t * 37 + l) = nI (co F b (if t = (b.2 k).1 ∧ l < i then k + 1 else k) t l))
        (fun S' => (∀ q, q ≠ 41 → S' q = S q) ∧ ∀ t l, t < 8 → l < 37 → (S' 41).1 (t * 37 + l) = nI (co F b (k + 1) t l)) 37
        (by
          rintro i ⟨x, V⟩ hi ⟨hx, v1, v2⟩
          dsimp only at hx v1 v2 ⊢
          subst hx
          have XV : XSt T F b V := XSt_fl h (FL_one v1 (by decide))
          refine ⟨(nI (i + 1), wr V 41 ((b.2 k).1 * 37 + i) (nI (co F b (k + 1) (b.2 k).1 i))), ?_, rfl, fun q hq => ?_, fun t l ht hl => ?_⟩
          · unfold f8_writeCodes_L22
            have hv := v2 (b.2 k).1 i hs8 hi
            rw [if_neg (by omega)] at hv
            rw [if_neg (show ¬ (37 : Int32) ≤ nI i from nI_ge (b := 37) hi (by decide)), (X_line XV hG hk).1, bnp_ok, X_codeOf XV hG hk (by omega), bnp_ok, show (37 : Int32) = nI 37 from rfl, pk_mul, nI_add, f5_join_in (by omega) (by decide), bnd_ok, lt_ok, nI_1]
            rw [hv, fa_or, co_succ (by omega) rfl]
          · dsimp only
            rw [wr_ne _ _ _ _ hq]; exact v1 q hq
          · dsimp only
            by_cases e : t = (b.2 k).1 ∧ l = i
            · obtain ⟨e1, e2⟩ := e
              rw [e1, e2, wr_val, if_pos ⟨rfl, Nat.lt_succ_self i⟩]
            · rw [wr_oth (ix_ne hl hi e), v2 t l ht hl]
              by_cases c : t = (b.2 k).1 ∧ l < i
              · rw [if_pos c, if_pos (by omega)]
              · rw [if_neg c, if_neg (by omega)])
        (by
          rintro ⟨x, V⟩ ⟨hx, v1, v2⟩
          dsimp only at hx v1 v2 ⊢
          subst hx
          refine ⟨V, ?_, v1, fun t l ht hl => ?_⟩
          · unfold f8_writeCodes_L22
            rw [if_pos (by decide)]
          · rw [v2 t l ht hl]
            by_cases c : t = (b.2 k).1
            · rw [if_pos ⟨c, hl⟩]
            · rw [if_neg (fun z => c z.1), co_skip (fun z => c z.symm)])
        (by omega) ⟨rfl, h1, fun t l ht hl => by
          dsimp only
          rw [if_neg (fun z => Nat.not_lt_zero l z.2)]
          exact h2 t l ht hl⟩
      refine ⟨(nI (k + 1), V), ?_, rfl, j2, j3⟩
      unfold f8_writeCodes_L9 f0_lines_15 f8_writeCodes_b60
      rw [bnp_ok, XU.2.2.1, if_neg (nI_ge hk (by omega)), j1, bnp_ok, lt_ok, nI_1])
    (by
      rintro ⟨x, U⟩ ⟨hx, h1, h2⟩
      dsimp only at hx h1 h2 ⊢
      subst hx
      have XU : XSt T F b U := XSt_fl h (FL_one h1 (by decide))
      refine ⟨U, ?_, h1, h2⟩
      unfold f8_writeCodes_L9 f0_lines_15
      rw [bnp_ok, XU.2.2.1, if_pos (nI_le (Nat.le_refl _) (by omega))])
    (by omega) ⟨rfl, w2, fun t l ht hl => by
      dsimp only
      rw [w3 _ (by omega)]
      have : co F b 0 t l = 0 := by
        unfold co bsum
        refine sm_none (fun j _ => if_neg (fun z => ?_))
        unfold cob at z
        split at z
        · have := of_decide_eq_true z; omega
        · have := of_decide_eq_true z; omega
      rw [this]; rfl⟩
  rw [k1, bnp_ok]
  exact ⟨S', rfl, k3, k2⟩
