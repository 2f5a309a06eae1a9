/-- the code of a world -/
def wco (F : Nat) (b : Bk) (x : Nat) : Nat := bsum (fun j => if j < 12 then decide (j < b.1 ∧ lgh F (b.2 j) x = 2) else decide (j - 12 < b.1 ∧ (b.2 (j - 12)).2.2 = 2 ∧ lgh F (b.2 (j - 12)) x = 1)) 24
theorem or8b (c : Prop) [Decidable c] (s0 : Nat) (Q : Nat → Prop) [DecidablePred Q] (h : c → s0 < 8) :
    (((((((decide (c ∧ s0 = 0 ∧ Q 0) || decide (c ∧ s0 = 1 ∧ Q 1)) || decide (c ∧ s0 = 2 ∧ Q 2)) || decide (c ∧ s0 = 3 ∧ Q 3)) || decide (c ∧ s0 = 4 ∧ Q 4)) || decide (c ∧ s0 = 5 ∧ Q 5)) || decide (c ∧ s0 = 6 ∧ Q 6)) || decide (c ∧ s0 = 7 ∧ Q 7)) = decide (c ∧ Q s0) := by
  by_cases hc : c
  · have := h hc
    rcases (show s0 = 0 ∨ s0 = 1 ∨ s0 = 2 ∨ s0 = 3 ∨ s0 = 4 ∨ s0 = 5 ∨ s0 = 6 ∨ s0 = 7 by omega) with rfl | rfl | rfl | rfl | rfl | rfl | rfl | rfl <;> simp [hc]
  · simp [hc]
theorem or8w {T F : Nat} {b : Bk} (hG : GSt T F b) (x : Nat) : (((((((co F b b.1 0 (ld x 0) ||| co F b b.1 1 (ld x 1)) ||| co F b b.1 2 (ld x 2)) ||| co F b b.1 3 (ld x 3)) ||| co F b b.1 4 (ld x 4)) ||| co F b b.1 5 (ld x 5)) ||| co F b b.1 6 (ld x 6)) ||| co F b b.1 7 (ld x 7)) = wco F b x := by
  apply Nat.eq_of_testBit_eq
  intro j
  simp only [Nat.testBit_or]
  unfold co wco
  simp only [bsum_bit]
  by_cases h24 : j < 24
  · simp only [decide_eq_true h24, Bool.true_and]
    unfold cob
    by_cases h12 : j < 12
    · simp only [if_pos h12]
      exact or8b (j < b.1) (b.2 j).1 (fun s => lgl F (b.2 j).2.1 (b.2 j).2.2 (ld x s) = 2) (fun h => sx_lt hG.1 (hG.2.2.2.2 j h).1)
    · simp only [if_neg h12]
      exact or8b (j - 12 < b.1) (b.2 (j - 12)).1 (fun s => (b.2 (j - 12)).2.2 = 2 ∧ lgl F (b.2 (j - 12)).2.1 (b.2 (j - 12)).2.2 (ld x s) = 1) (fun h => sx_lt hG.1 (hG.2.2.2.2 _ h).1)
  · simp only [decide_eq_false h24, Bool.false_and, Bool.or_false]
theorem wco_lt {F : Nat} {b : Bk} {x : Nat} : wco F b x < 2 ^ 24 := bsum_lt _ _
theorem wco_lo {F : Nat} {b : Bk} {x : Nat} (hb : b.1 ≤ 12) : wco F b x % 2 ^ 12 = mis F b x := by
  apply Nat.eq_of_testBit_eq
  intro j
  unfold wco mis
  rw [Nat.testBit_mod_two_pow, bsum_bit, bsum_bit]
  by_cases h : j < 12
  · rw [decide_eq_true h, Bool.true_and, decide_eq_true (show j < 24 by omega), Bool.true_and, if_pos h]
    by_cases hj : j < b.1
    · simp only [hj, true_and, decide_true, Bool.true_and]
    · simp only [hj, false_and, decide_false, Bool.false_and]
  · rw [decide_eq_false h, Bool.false_and, decide_eq_false (show ¬ j < b.1 by omega), Bool.false_and]
theorem wco_hi {F : Nat} {b : Bk} {x : Nat} (hb : b.1 ≤ 12) : wco F b x / 2 ^ 12 = lau F b x := by
  apply Nat.eq_of_testBit_eq
  intro j
  unfold wco lau
  rw [Nat.testBit_div_two_pow, bsum_bit, bsum_bit]
  by_cases h : j < 12
  · rw [decide_eq_true (show j + 12 < 24 by omega), Bool.true_and, if_neg (show ¬ j + 12 < 12 by omega), show j + 12 - 12 = j by omega]
    by_cases hj : j < b.1
    · simp only [hj, true_and, decide_true, Bool.true_and]
    · simp only [hj, false_and, decide_false, Bool.false_and]
  · rw [decide_eq_false (show ¬ j + 12 < 24 by omega), Bool.false_and, decide_eq_false (show ¬ j < b.1 by omega), Bool.false_and]
theorem X_dg {x i N : Nat} {S : Mem} (hx : x < 10000) (hi : i < 4) : f8_weightIn N (nI x) (nI i) S = some (nI (dg x i)) := by
  have n10 : ¬ (10 : Int32) = 0 := by decide
  have n100 : ¬ (100 : Int32) = 0 := by decide
  have n1000 : ¬ (1000 : Int32) = 0 := by decide
  have d1 : nI x / (1000 : Int32) = nI (x / 1000) := pk_div (d := 1000) (by omega) (by decide) (by decide)
  have d2 : nI x / (100 : Int32) = nI (x / 100) := pk_div (d := 100) (by omega) (by decide) (by decide)
  have d3 : nI x / (10 : Int32) = nI (x / 10) := pk_div (d := 10) (by omega) (by decide) (by decide)
  have d4 : nI (x / 100) / (10 : Int32) = nI (x / 100 / 10) := pk_div (d := 10) (by omega) (by decide) (by decide)
  have d5 : nI (x / 10) / (10 : Int32) = nI (x / 10 / 10) := pk_div (d := 10) (by omega) (by decide) (by decide)
  have r1 : nI (x / 100) - nI (x / 100 / 10) * (10 : Int32) = nI (x / 100 % 10) := by
    have h := pk_rem (a := x / 100) (d := 10) (by omega) (by decide) (by decide)
    rw [pk_div (a := x / 100) (d := 10) (by omega) (by decide) (by decide)] at h
    exact h
  have r2 : nI (x / 10) - nI (x / 10 / 10) * (10 : Int32) = nI (x / 10 % 10) := by
    have h := pk_rem (a := x / 10) (d := 10) (by omega) (by decide) (by decide)
    rw [pk_div (a := x / 10) (d := 10) (by omega) (by decide) (by decide)] at h
    exact h
  have r3 : nI x - nI (x / 10) * (10 : Int32) = nI (x % 10) := by
    have h := pk_rem (a := x) (d := 10) (by omega) (by decide) (by decide)
    rw [pk_div (a := x) (d := 10) (by omega) (by decide) (by decide)] at h
    exact h
  unfold f8_weightIn dg
  simp only [n10, n100, n1000, if_false, d1, d2, d3, d4, d5, r1, r2, r3]
  rcases (show i = 0 ∨ i = 1 ∨ i = 2 ∨ i = 3 by omega) with rfl | rfl | rfl | rfl
  · rfl
  · rfl
  · rfl
  · rfl
theorem ix10 {i w i' w' : Nat} (h : w < 10) (h' : w' < 10) : i * 10 + w = i' * 10 + w' ↔ i = i' ∧ w = w' := by omega
theorem ix13 {i w i' w' : Nat} (h : w < 13) (h' : w' < 13) : i * 13 + w = i' * 13 + w' ↔ i = i' ∧ w = w' := by omega
theorem X_leave {x z N : Nat} {S : Mem} (hx : x < 10000) (hz : z < 4096) (hN : 12 < N) : ∃ S', f8_leave N (nI x) (nI z) S = some ((), S') ∧ (S' 39).1 8 = (S 39).1 8 + 1 ∧ (∀ j, j ≠ 8 → (S' 39).1 j = (S 39).1 j) ∧ (∀ j, (S' 43).1 j = if j = x / 32 then (S 43).1 j ||| ((1 : Int32) <<< (nI (x % 32) &&& 31)) else (S 43).1 j) ∧ (∀ i w, i < 4 → w < 10 → (S' 45).1 (i * 10 + w) = (S 45).1 (i * 10 + w) + nI (if dg x i = w then 1 else 0)) ∧ (∀ l, l < 13 → (S' 47).1 l = (S 47).1 l + nI (if pop z = l then 1 else 0)) ∧ (∀ k l, k < 12 → l < 13 → (S' 49).1 (k * 13 + l) = (S 49).1 (k * 13 + l) + nI (if pop z = l then bt2 z k else 0)) ∧ ∀ q, q ∉ [39, 43, 45, 47, 49] → S' q = S q := by
  have hp := pop_le z
  have zz : ∀ y : Int32, y + nI 0 = y := fun y => Int32.add_zero y
  unfold f8_leave f8_leave_b57 f8_leave_b114
  have e5 : nI x >>> ((5 : Int32) &&& 31) = nI (x / 32) := pk_shrN (by omega) _ 5 (by decide)
  have e31 : nI x &&& (31 : Int32) = nI (x % 32) := pk_andN (by omega) 5 (by decide)
  rw [lt_ok, e5, e31, f5_join_in (by omega) (by decide), bnd_ok]
  obtain ⟨S1, hS1⟩ : ∃ Z, Z = wr (wr S 39 8 ((S 39).1 8 + 1)) 43 (x / 32) (((wr S 39 8 ((S 39).1 8 + 1)) (42 + 1)).1 (x / 32) ||| ((1 : Int32) <<< (nI (x % 32) &&& 31))) := ⟨_, rfl⟩
  rw [← hS1]
  obtain ⟨S2, k1, k2, k3⟩ := lp_inv (f := fun s : Int32 × Mem => f8_leave_L28 N (nI x) (nI z) s.1 s.2) (s := ((0 : Int32), S1)) (N := N)
    (fun i s => s.1 = nI i ∧ (∀ q, q ≠ 45 → s.2 q = S1 q) ∧ ∀ t w, t < 4 → w < 10 → (s.2 45).1 (t * 10 + w) = (S1 45).1 (t * 10 + w) + nI (if t < i ∧ dg x t = w then 1 else 0))
    (fun S' => (∀ q, q ≠ 45 → S' q = S1 q) ∧ ∀ t w, t < 4 → w < 10 → (S' 45).1 (t * 10 + w) = (S1 45).1 (t * 10 + w) + nI (if dg x t = w then 1 else 0)) 4
    (by
      rintro i ⟨y, U⟩ hi ⟨hy, h1, h2⟩
      dsimp only at hy h1 h2 ⊢
      subst hy
      have hd := dg_lt (i := i) hx
      refine ⟨(nI (i + 1), wr U 45 (i * 10 + dg x i) ((U 45).1 (i * 10 + dg x i) + 1)), ?_, rfl, fun q hq => ?_, fun t w ht hw => ?_⟩
      · unfold f8_leave_L28
        rw [if_neg (show ¬ (3 : Int32) < nI i from nI_nlt (a := 3) (by omega) (by decide)), X_dg hx hi, bnp_ok, show (10 : Int32) = nI 10 from rfl, pk_mul, nI_add, f5_add_in (by omega) (by decide), bnd_ok, lt_ok, nI_1]
      · dsimp only
        rw [wr_ne _ _ _ _ hq]; exact h1 q hq
      · dsimp only
        by_cases e : t * 10 + w = i * 10 + dg x i
        · obtain ⟨e1, e2⟩ := (ix10 hw hd).mp e
          subst e1
          rw [e2, wr_val, if_pos ⟨Nat.lt_succ_self t, rfl⟩, h2 t _ ht hd, if_neg (fun z => Nat.lt_irrefl _ z.1), zz]
          rfl
        · rw [wr_oth e, h2 t w ht hw]
          congr 2
          have : ¬ (t = i ∧ w = dg x i) := fun z => e ((ix10 hw hd).mpr z)
          by_cases c : t < i ∧ dg x t = w
          · rw [if_pos c, if_pos ⟨by omega, c.2⟩]
          · rw [if_neg c, if_neg (fun z => by
              apply c
              refine ⟨?_, z.2⟩
              have z1 := z.1
              have z2 := z.2
              rcases Nat.lt_or_ge t i with g | g
              · exact g
              · exfalso
                have e3 : t = i := by omega
                exact this ⟨e3, by rw [← z2, e3]⟩)])
    (by
      rintro ⟨y, U⟩ ⟨hy, h1, h2⟩
      dsimp only at hy h1 h2 ⊢
      subst hy
      refine ⟨U, ?_, h1, fun t w ht hw => ?_⟩
      · unfold f8_leave_L28
        rw [if_pos (by decide)]
      · rw [h2 t w ht hw]
        congr 2
        by_cases c : dg x t = w
        · rw [if_pos c, if_pos ⟨ht, c⟩]
        · rw [if_neg c, if_neg (fun z => c z.2)])
    (by omega) ⟨rfl, fun _ _ => rfl, fun t w ht hw => by
      dsimp only
      rw [if_neg (fun z => Nat.not_lt_zero _ z.1), zz]⟩
  rw [k1, bnp_ok, f_bitCount hz, bnp_ok, f5_add_in (by omega) (by decide), bnd_ok]
  obtain ⟨S3, hS3⟩ : ∃ Z, Z = wr S2 47 (pop z) ((S2 (46 + 1)).1 (pop z) + 1) := ⟨_, rfl⟩
  rw [← hS3]
  obtain ⟨S4, j1, j2, j3⟩ := lp_invE0 (f := fun s : Int32 × Mem => f8_leave_L74 N (nI z) (nI (pop z)) s.1 s.2) (s := ((0 : Int32), S3)) (N := N)
    (fun i s => s.1 = nI i ∧ (∀ q, q ≠ 49 → s.2 q = S3 q) ∧ ∀ t w, t < 12 → w < 13 → (s.2 49).1 (t * 13 + w) = (S3 49).1 (t * 13 + w) + nI (if t < i ∧ pop z = w then bt2 z t else 0))
    (fun S' => (∀ q, q ≠ 49 → S' q = S3 q) ∧ ∀ t w, t < 12 → w < 13 → (S' 49).1 (t * 13 + w) = (S3 49).1 (t * 13 + w) + nI (if pop z = w then bt2 z t else 0)) 12
    (by
      rintro i ⟨y, U⟩ hi ⟨hy, h1, h2⟩
      dsimp only at hy h1 h2 ⊢
      subst hy
      have esh : nI z >>> (nI i &&& 31) = nI (z / 2 ^ i) := shr_nI (by omega) (by omega)
      have hle : z / 2 ^ i ≤ z := Nat.div_le_self _ _
      have hbt := bt2_lt z i
      by_cases h0 : z / 2 ^ i = 0
      · refine Or.inr ⟨U, ?_, h1, fun t w ht hw => ?_⟩
        · unfold f8_leave_L74
          rw [esh, h0, if_pos (show nI 0 = 0 from rfl)]
        · rw [h2 t w ht hw]
          congr 2
          by_cases c : pop z = w
          · rw [if_pos c]
            by_cases c2 : t < i
            · rw [if_pos ⟨c2, c⟩]
            · rw [if_neg (fun z => c2 z.1)]
              unfold bt2
              have hlt : z < 2 ^ i := (Nat.div_eq_zero_iff_lt (Nat.two_pow_pos i)).mp h0
              rw [Nat.div_eq_of_lt (Nat.lt_of_lt_of_le hlt (Nat.pow_le_pow_right (by decide) (by omega)))]
          · rw [if_neg c, if_neg (fun z => c z.2)]
      · refine Or.inl ⟨(nI (i + 1), wr U 49 (i * 13 + pop z) ((U 49).1 (i * 13 + pop z) + nI (bt2 z i))), ?_, rfl, fun q hq => ?_, fun t w ht hw => ?_⟩
        · unfold f8_leave_L74
          have eb : nI (z / 2 ^ i) &&& (1 : Int32) = nI (bt2 z i) := and1 (by omega)
          rw [esh, if_neg (show ¬ nI (z / 2 ^ i) = 0 from ne_nI (b := 0) (by omega) (by decide) h0), if_neg (show ¬ (12 : Int32) ≤ nI i from nI_ge (b := 12) hi (by decide)), eb, show (13 : Int32) = nI 13 from rfl, pk_mul, nI_add, f5_add_in (by omega) (by decide), bnd_ok, lt_ok, nI_1]
        · dsimp only
          rw [wr_ne _ _ _ _ hq]; exact h1 q hq
        · dsimp only
          by_cases e : t * 13 + w = i * 13 + pop z
          · obtain ⟨e1, e2⟩ := (ix13 hw (by omega)).mp e
            subst e1
            subst e2
            rw [wr_val, if_pos ⟨Nat.lt_succ_self t, rfl⟩, h2 t _ ht hw, if_neg (fun z => Nat.lt_irrefl _ z.1), zz]
          · rw [wr_oth e, h2 t w ht hw]
            congr 2
            have : ¬ (t = i ∧ w = pop z) := fun z => e ((ix13 hw (by omega)).mpr z)
            by_cases c : t < i ∧ pop z = w
            · rw [if_pos c, if_pos ⟨by omega, c.2⟩]
            · rw [if_neg c, if_neg (fun z => by omega)])
    (by
      rintro ⟨y, U⟩ ⟨hy, h1, h2⟩
      dsimp only at hy h1 h2 ⊢
      subst hy
      refine ⟨U, ?_, h1, fun t w ht hw => ?_⟩
      · unfold f8_leave_L74
        split
        · rfl
        · rw [if_pos (by decide)]
      · rw [h2 t w ht hw]
        congr 2
        by_cases c : pop z = w
        · rw [if_pos c, if_pos ⟨ht, c⟩]
        · rw [if_neg c, if_neg (fun z => c z.2)])
    (by omega) ⟨rfl, fun _ _ => rfl, fun t w ht hw => by
      dsimp only
      rw [if_neg (fun z => Nat.not_lt_zero _ z.1), zz]⟩
  rw [j1, bnp_ok]
  have f39 : S4 39 = wr S 39 8 ((S 39).1 8 + 1) 39 := by rw [j2 39 (by decide), hS3, wr_ne _ _ _ _ (by decide), k2 39 (by decide), hS1, wr_ne _ _ _ _ (by decide)]
  have f43 : S4 43 = S1 43 := by rw [j2 43 (by decide), hS3, wr_ne _ _ _ _ (by decide), k2 43 (by decide)]
  have f45 : S4 45 = S2 45 := by rw [j2 45 (by decide), hS3, wr_ne _ _ _ _ (by decide)]
  have g45 : S1 45 = S 45 := by rw [hS1, wr_ne _ _ _ _ (by decide), wr_ne _ _ _ _ (by decide)]
  have f47 : S4 47 = S3 47 := j2 47 (by decide)
  have g47 : S2 47 = S 47 := by rw [k2 47 (by decide), hS1, wr_ne _ _ _ _ (by decide), wr_ne _ _ _ _ (by decide)]
  have g49 : S3 49 = S 49 := by rw [hS3, wr_ne _ _ _ _ (by decide), k2 49 (by decide), hS1, wr_ne _ _ _ _ (by decide), wr_ne _ _ _ _ (by decide)]
  refine ⟨S4, rfl, ?_, fun j hj => ?_, fun j => ?_, fun i w hi hw => ?_, fun l hl => ?_, fun k l hk hl => ?_, fun q hq => ?_⟩
  · rw [f39, wr_val]
  · rw [f39, wr_oth hj]
  · rw [f43, hS1]
    by_cases e : j = x / 32
    · rw [if_pos e, e, wr_val, wr_ne _ _ _ _ (by decide)]
    · rw [if_neg e, wr_oth e, wr_ne _ _ _ _ (by decide)]
  · rw [f45, k3 i w hi hw, g45]
  · rw [f47, hS3]
    by_cases e : l = pop z
    · rw [e, wr_val, if_pos rfl, show S2 (46 + 1) = S2 47 from rfl, g47]; rfl
    · rw [wr_oth e, if_neg (fun z => e z.symm), zz, g47]
  · rw [j3 k l hk hl, g49]
  · simp only [List.mem_cons, List.not_mem_nil, or_false, not_or] at hq
    obtain ⟨q39, q43, q45, q47, q49⟩ := hq
    rw [j2 q q49, hS3, wr_ne _ _ _ _ q47, k2 q q45, hS1, wr_ne _ _ _ _ q43, wr_ne _ _ _ _ q39]
