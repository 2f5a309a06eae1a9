theorem M_numloop {n : Nat} {B : Nat → Nat} {S : Mem} {N q : Nat} (v1 : Int32) (h : MTx n B S) (hB : GTx n B) (hp : q ≤ n) (hN : 200 < N) (h6 : (S 57).1 6 = nI q) (h7 : (S 57).1 7 = nI q) (h9 : (S 57).1 9 = 0) : ∃ S' v, lp N (fun s => f10_nextToken_L225 N v1 s) S = some S' ∧ (S' 57).1 6 = nI (sc pD B n q) ∧ (S' 57).1 7 = nI q ∧ Fr S S' ∧ (S' 57).1 9 = nI v ∧ v ≤ 999 ∧ (sc pD B n q - q = 1 → v = B q - 48) ∧ (sc pD B n q - q = 2 → v = 10 * (B q - 48) + (B (q + 1) - 48)) ∧ (3 ≤ sc pD B n q - q → B q ≠ 48 → 99 < v) := by
  have hn := hB.1
  have hs := sc_le (P := pD) (B := B) hp
  have hl : ∀ j, j < sc pD B n q - q → 48 ≤ B (q + j) ∧ B (q + j) ≤ 57 := fun j hj => of_decide_eq_true (sc_in (P := pD) (B := B) (n := n) (p := q) (j := q + j) (by omega) (by omega))
  obtain ⟨r, k1, k2⟩ := lp_inv (f := fun s => f10_nextToken_L225 N v1 s) (s := S) (N := N)
    (fun i s => (s 57).1 6 = nI (q + i) ∧ (s 57).1 7 = nI q ∧ Fr S s ∧ ∃ v, (s 57).1 9 = nI v ∧ v ≤ 999 ∧ (i = 0 → v = 0) ∧ (i = 1 → v = B q - 48) ∧ (i = 2 → v = 10 * (B q - 48) + (B (q + 1) - 48)) ∧ (3 ≤ i → B q ≠ 48 → 99 < v))
    (fun s => (s 57).1 6 = nI (sc pD B n q) ∧ (s 57).1 7 = nI q ∧ Fr S s ∧ ∃ v, (s 57).1 9 = nI v ∧ v ≤ 999 ∧ (sc pD B n q - q = 1 → v = B q - 48) ∧ (sc pD B n q - q = 2 → v = 10 * (B q - 48) + (B (q + 1) - 48)) ∧ (3 ≤ sc pD B n q - q → B q ≠ 48 → 99 < v)) (sc pD B n q - q)
    (by
      rintro i U hi ⟨h1, h2, h3, v, a1, a2, a3, a4, a5, a6⟩
      have e := sc_in (P := pD) (B := B) (n := n) (p := q) (j := q + i) (by omega) (by omega)
      have hq : q + i < n := by omega
      have hbi := hl i hi
      have hb0 := hl 0 (by omega)
      rw [Nat.add_zero] at hb0
      have hb1 : 2 ≤ i → 48 ≤ B (q + 1) ∧ B (q + 1) ≤ 57 := fun hz => hl 1 (by omega)
      have hb10 : i = 1 → B (q + i) = B (q + 1) := fun hz => by rw [hz]
      have hb00 : i = 0 → B (q + i) = B q := fun hz => by rw [hz, Nat.add_zero]
      have hh := M_here (N := N) (Fr_MTx h h3) hB h1 hq
      by_cases hv : v ≤ 99
      · refine ⟨wr (wr U 57 9 (nI (10 * v + (B (q + i) - 48)))) 57 6 (nI (q + (i + 1))), ?_, wr_val _ _ _ _, ?_, Fr_tr h3 (Fr_tr (Fr_wr _ _ (Or.inr (Or.inr (Or.inr rfl)))) (Fr_wr _ _ (Or.inl rfl))), 10 * v + (B (q + i) - 48), ?_, ?_, ?_, ?_, ?_, ?_⟩
        · have e9 : nI v ≤ 99 := nI_le (b := 99) hv (by decide)
          have ev : (10 : Int32) * nI v + nI (B (q + i)) - 48 = nI (10 * v + (B (q + i) - 48)) := by
            rw [show (10 : Int32) = nI 10 from rfl, pk_mul, nI_add, show (48 : Int32) = nI 48 from rfl, pk_sub (by omega)]
            congr 1
            omega
          unfold f10_nextToken_L225 f10_nextToken_b271
          rw [hh, bnp_ok, fM_btw, bnp_ok, btw_D (hB.2 _ hq), if_pos e, if_neg (by decide), a1, if_pos e9, bnp_ok, ev, lt_ok, wr_oth (by decide), h1, nI_1]
          rfl
        · rw [wr_oth (by decide), wr_oth (by decide)]; exact h2
        · rw [wr_oth (by decide)]; exact wr_val _ _ _ _
        · omega
        · omega
        · intro hz
          have := a3 (by omega)
          have := hb00 (by omega)
          omega
        · intro hz
          have := a4 (by omega)
          have := hb10 (by omega)
          omega
        · intro hz hz2
          by_cases h3 : i = 2
          · have := a5 h3
            have := hb1 (by omega)
            omega
          · have := a6 (by omega) hz2
            omega
      · refine ⟨wr (wr U 57 9 (nI v)) 57 6 (nI (q + (i + 1))), ?_, wr_val _ _ _ _, ?_, Fr_tr h3 (Fr_tr (Fr_wr _ _ (Or.inr (Or.inr (Or.inr rfl)))) (Fr_wr _ _ (Or.inl rfl))), v, ?_, a2, ?_, ?_, ?_, ?_⟩
        · have e9 : ¬ nI v ≤ 99 := nI_ge (a := 99) (by omega) (by omega)
          unfold f10_nextToken_L225 f10_nextToken_b271
          rw [hh, bnp_ok, fM_btw, bnp_ok, btw_D (hB.2 _ hq), if_pos e, if_neg (by decide), a1, if_neg e9, lt_ok, wr_oth (by decide), h1, nI_1]
          rfl
        · rw [wr_oth (by decide), wr_oth (by decide)]; exact h2
        · rw [wr_oth (by decide)]; exact wr_val _ _ _ _
        · omega
        · intro hz
          have := a3 (by omega)
          omega
        · intro hz
          have := a4 (by omega)
          omega
        · intro hz hz2
          omega)
    (by
      rintro U ⟨h1, h2, h3, v, a1, a2, a3, a4, a5, a6⟩
      rw [show q + (sc pD B n q - q) = sc pD B n q by omega] at h1
      refine ⟨U, ?_, h1, h2, h3, v, a1, a2, a4, a5, a6⟩
      unfold f10_nextToken_L225
      by_cases hz : sc pD B n q < n
      · have e := sc_out (P := pD) (B := B) hp hz
        rw [M_here (Fr_MTx h h3) hB h1 hz, bnp_ok, fM_btw, bnp_ok, btw_D (hB.2 _ hz), e, if_pos (show (if false = true then (1 : Int32) else 0) = 0 by decide)]
      · rw [M_here_end (Fr_MTx h h3) hB h1 (by omega) (by omega), bnp_ok, fM_btw, bnp_ok, show btw (-1) 48 57 = 0 by decide, if_pos rfl])
    (by omega) ⟨h6, h7, Fr_refl S, 0, h9, by omega, fun _ => rfl, fun z => by omega, fun z => by omega, fun z => by omega⟩
  obtain ⟨k3, k4, k5, v, k6, k7⟩ := k2
  exact ⟨r, v, k1, k3, k4, k5, k6, k7⟩
theorem M_num_tok {n : Nat} {B : Nat → Nat} {S : Mem} {N q v : Nat} (hB : GTx n B) (hp : q < n) (hd : pD (B q) = true) (h6 : (S 57).1 6 = nI (sc pD B n q)) (h7 : (S 57).1 7 = nI q) (k1 : (S 57).1 9 = nI v) (k2 : v ≤ 999) (k3 : sc pD B n q - q = 1 → v = B q - 48) (k4 : sc pD B n q - q = 2 → v = 10 * (B q - 48) + (B (q + 1) - 48)) (k5 : 3 ≤ sc pD B n q - q → B q ≠ 48 → 99 < v) : f10_nextToken_b287 N (nI (B q)) S = some ((), wr S 57 8 (nI (mk (kD B n q)))) ∧ (kD B n q = 5 → v = vD B n q) := by
  have hn := hB.1
  have hs := sc_le (P := pD) (B := B) (Nat.le_of_lt hp)
  have hs1 := sc_step (P := pD) hp hd
  have d1 : 48 ≤ B q ∧ B q ≤ 57 := of_decide_eq_true hd
  have d2 : q + 1 < sc pD B n q → 48 ≤ B (q + 1) ∧ B (q + 1) ≤ 57 := fun hz => of_decide_eq_true (sc_in (P := pD) (B := B) (n := n) (p := q) (j := q + 1) (by omega) hz)
  unfold f10_nextToken_b287 f10_nextToken_b316 f10_nextToken_b321 f10_nextToken_b322 kD vD
  rw [k1, h6, h7, pk_sub hs.1]
  by_cases c1 : sc pD B n q = q + 1
  · have e1 := k3 (by omega)
    rw [if_pos (Or.inl c1), if_pos c1, if_neg (show ¬ (99 : Int32) < nI v from nI_nlt (a := 99) (by omega) (by decide)), if_pos (show nI (sc pD B n q - q) ≤ 1 from nI_le (b := 1) (by omega) (by decide))]
    refine ⟨?_, fun _ => e1⟩
    split <;> rfl
  · by_cases c2 : sc pD B n q = q + 2
    · have e1 := k4 (by omega)
      have d2 := d2 (by omega)
      rw [if_neg (show ¬ (99 : Int32) < nI v from nI_nlt (a := 99) (by omega) (by decide)), if_neg (show ¬ nI (sc pD B n q - q) ≤ 1 from nI_ge (a := 1) (by omega) (by omega)), if_neg c1]
      by_cases c3 : B q = 48
      · rw [if_pos (show nI (B q) = 48 by rw [c3]; rfl), if_neg (fun z => z.elim c1 (fun z => z.2 c3))]
        exact ⟨rfl, fun z => by omega⟩
      · rw [if_neg (show ¬ nI (B q) = 48 from ne_nI (b := 48) (by omega) (by decide) c3), if_pos (Or.inr ⟨c2, c3⟩)]
        exact ⟨rfl, fun z => e1⟩
    · rw [if_neg (show ¬ (sc pD B n q = q + 1 ∨ sc pD B n q = q + 2 ∧ B q ≠ 48) by omega)]
      refine ⟨?_, fun z => by omega⟩
      by_cases c3 : B q = 48
      · rw [if_pos (show nI (B q) = 48 by rw [c3]; rfl), if_neg (show ¬ nI (sc pD B n q - q) ≤ 1 from nI_ge (a := 1) (by omega) (by omega))]
        split <;> rfl
      · rw [if_pos (show (99 : Int32) < nI v from nI_lt (a := 99) (k5 (by omega) c3) (by omega))]
        rfl
theorem M_token {n : Nat} {B : Nat → Nat} {S : Mem} {N p : Nat} (h : MTx n B S) (hB : GTx n B) (hp : p ≤ n) (hN : 200 < N) (h6 : (S 57).1 6 = nI p) : ∃ S', f10_nextToken N S = some ((), S') ∧ (S' 57).1 7 = nI (tS B n p) ∧ (S' 57).1 8 = nI (mk (tK B n p)) ∧ (S' 57).1 6 = nI (tE B n p) ∧ (tK B n p = 5 → (S' 57).1 9 = nI (tV B n p)) ∧ Fr S S' := by
  have hn := hB.1
  have hs := tS_le (B := B) hp
  obtain ⟨S1, a1, a2, a3⟩ := M_blanks h hB hp hN h6
  unfold f10_nextToken f10_nextToken_b22
  rw [a1, bnp_ok, lt_ok, lt_ok, a2]
  have b6 : (wr (wr S1 57 7 (nI (tS B n p))) 57 9 0 57).1 6 = nI (tS B n p) := by rw [wr_oth (by decide), wr_oth (by decide)]; exact a2
  have b7 : (wr (wr S1 57 7 (nI (tS B n p))) 57 9 0 57).1 7 = nI (tS B n p) := by rw [wr_oth (by decide)]; exact wr_val _ _ _ _
  have b9 : (wr (wr S1 57 7 (nI (tS B n p))) 57 9 0 57).1 9 = 0 := wr_val _ _ _ _
  have bF : Fr S (wr (wr S1 57 7 (nI (tS B n p))) 57 9 0) := Fr_tr a3 (Fr_tr (Fr_wr _ _ (Or.inr (Or.inl rfl))) (Fr_wr _ _ (Or.inr (Or.inr (Or.inr rfl)))))
  generalize wr (wr S1 57 7 (nI (tS B n p))) 57 9 0 = S2 at b6 b7 b9 bF ⊢
  have hM := Fr_MTx h bF
  unfold tK tE tV
  by_cases h0 : n ≤ tS B n p
  · simp only [if_pos h0]
    rw [M_here_end hM hB b6 h0 (by omega), bnp_ok, if_neg (by decide), lt_ok]
    exact ⟨_, rfl, by rw [wr_oth (by decide)]; exact b7, wr_val _ _ _ _, by rw [wr_oth (by decide)]; exact b6, fun z => by omega, Fr_tr bF (Fr_wr _ _ (Or.inr (Or.inr (Or.inl rfl))))⟩
  · have hq : tS B n p < n := by omega
    have hb := hB.2 _ hq
    simp only [if_neg h0]
    rw [M_here hM hB b6 hq, bnp_ok, if_pos (show (0 : Int32) ≤ nI (B (tS B n p)) from nI_le (a := 0) (by omega) (by omega)), fM_btw, bnp_ok, btw_L hb]
    by_cases hL : pL (B (tS B n p)) = true
    · simp only [if_pos hL]
      rw [if_neg (by decide)]
      obtain ⟨S3, c1, c2, c3, c4⟩ := M_wordloop (N := N) hM hB (Nat.le_of_lt hq) hN b6 b7
      have hw := (cd_lt (B := B) (q := tS B n p) (sc pL B n (tS B n p) - tS B n p) (fun j hj => of_decide_eq_true (sc_in (P := pL) (B := B) (n := n) (p := tS B n p) (j := tS B n p + j) (by omega) (by omega)))).1
      have hsv : sv B (tS B n p) (sc pL B n (tS B n p) - tS B n p) < 2 ^ 31 := by
        have := sc_le (P := pL) (B := B) (Nat.le_of_lt hq)
        unfold sv
        split
        · decide
        · split
          · have := hB.2 (tS B n p + 6) (by omega)
            omega
          · decide
      rw [c1, bnp_ok, M_word_tok (by omega) hsv, mW_ok (Nat.le_of_lt hq)]
      refine ⟨_, rfl, by rw [wr_oth (by decide)]; exact c3, wr_val _ _ _ _, by rw [wr_oth (by decide)]; exact c2, fun z => ?_, Fr_tr bF (Fr_tr c4 (Fr_wr _ _ (Or.inr (Or.inr (Or.inl rfl)))))⟩
      exfalso
      unfold kW at z
      revert z
      split
      · decide
      · split
        · decide
        · split <;> decide
    · simp only [if_neg hL]
      rw [if_pos trivial, fM_btw, bnp_ok, btw_D hb]
      by_cases hD : pD (B (tS B n p)) = true
      · simp only [if_pos hD]
        rw [if_neg (by decide)]
        obtain ⟨S3, v, c1, c2, c3, c4, c5, c6, c7, c8, c9⟩ := M_numloop (N := N) (nI (B (tS B n p))) hM hB (Nat.le_of_lt hq) hN b6 b7 b9
        obtain ⟨d1, d2⟩ := M_num_tok (N := N) hB hq hD c2 c3 c5 c6 c7 c8 c9
        rw [c1, bnp_ok, d1]
        refine ⟨_, rfl, by rw [wr_oth (by decide)]; exact c3, wr_val _ _ _ _, by rw [wr_oth (by decide)]; exact c2, fun z => ?_, Fr_tr bF (Fr_tr c4 (Fr_wr _ _ (Or.inr (Or.inr (Or.inl rfl)))))⟩
        rw [wr_oth (by decide), c5, d2 z]
      · simp only [if_neg hD]
        unfold f10_nextToken_b351
        rw [if_pos trivial, lt_ok, b6, nI_1]
        by_cases h59 : B (tS B n p) = 59
        · simp only [if_pos h59, if_pos (show nI (B (tS B n p)) = 59 by rw [h59]; rfl)]
          exact ⟨_, rfl, by rw [wr_oth (by decide), wr_oth (by decide)]; exact b7, wr_val _ _ _ _, by rw [wr_oth (by decide)]; exact wr_val _ _ _ _, fun z => by omega, Fr_tr bF (Fr_tr (Fr_wr _ _ (Or.inl rfl)) (Fr_wr _ _ (Or.inr (Or.inr (Or.inl rfl)))))⟩
        · simp only [if_neg h59, if_neg (show ¬ nI (B (tS B n p)) = 59 from ne_nI (b := 59) (by omega) (by decide) h59)]
          exact ⟨_, rfl, by rw [wr_oth (by decide), wr_oth (by decide)]; exact b7, wr_val _ _ _ _, by rw [wr_oth (by decide)]; exact wr_val _ _ _ _, fun z => by omega, Fr_tr bF (Fr_tr (Fr_wr _ _ (Or.inl rfl)) (Fr_wr _ _ (Or.inr (Or.inr (Or.inl rfl)))))⟩
