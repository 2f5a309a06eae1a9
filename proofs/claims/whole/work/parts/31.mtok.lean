/-! TOKENS OF THE MODEL -/
def Fr (S S' : Mem) : Prop := (∀ j, j ≠ 6 → j ≠ 7 → j ≠ 8 → j ≠ 9 → (S' 57).1 j = (S 57).1 j) ∧ (S' 57).2 = (S 57).2 ∧ ∀ a, a ≠ 57 → S' a = S a
theorem Fr_refl (S : Mem) : Fr S S := ⟨fun _ _ _ _ _ => rfl, rfl, fun _ _ => rfl⟩
theorem Fr_tr {S S' S'' : Mem} (h1 : Fr S S') (h2 : Fr S' S'') : Fr S S'' := ⟨fun j a b c d => (h2.1 j a b c d).trans (h1.1 j a b c d), h2.2.1.trans h1.2.1, fun a ha => (h2.2.2 a ha).trans (h1.2.2 a ha)⟩
theorem wr_long (S : Mem) (k j : Nat) (x : Int32) : ((wr S k j x) k).2 = (S k).2 := by rw [wr_at]
theorem Fr_wr (S : Mem) {j : Nat} (x : Int32) (h : j = 6 ∨ j = 7 ∨ j = 8 ∨ j = 9) : Fr S (wr S 57 j x) := ⟨fun i a b c d => wr_oth (by omega), wr_long _ _ _ _, fun a ha => wr_ne _ _ _ _ ha⟩
theorem Fr_MTx {n : Nat} {B : Nat → Nat} {S S' : Mem} (h : MTx n B S) (f : Fr S S') : MTx n B S' := MTx_eq h (f.1 2 (by decide) (by decide) (by decide) (by decide)) (f.2.2 58 (by decide))
theorem M_blanks {n : Nat} {B : Nat → Nat} {S : Mem} {N p : Nat} (h : MTx n B S) (hB : GTx n B) (hp : p ≤ n) (hN : 200 < N) (h6 : (S 57).1 6 = nI p) : ∃ S', lp N (fun s => f10_nextToken_L0 N s) S = some S' ∧ (S' 57).1 6 = nI (tS B n p) ∧ Fr S S' := by
  have hn := hB.1
  have hs := tS_le (B := B) hp
  refine lp_inv (f := fun s => f10_nextToken_L0 N s) (fun i s => (s 57).1 6 = nI (p + i) ∧ Fr S s) (fun s => (s 57).1 6 = nI (tS B n p) ∧ Fr S s) (tS B n p - p) ?_ ?_ (by omega) ⟨h6, Fr_refl S⟩
  · rintro i s hi ⟨h1, h2⟩
    have e := sc_in (P := pB) (B := B) (n := n) (p := p) (j := p + i) (by omega) (by unfold tS at hi; omega)
    have e2 : B (p + i) = 32 := of_decide_eq_true e
    refine ⟨wr s 57 6 (nI (p + (i + 1))), ?_, wr_val _ _ _ _, Fr_tr h2 (Fr_wr _ _ (Or.inl rfl))⟩
    unfold f10_nextToken_L0
    rw [M_here (Fr_MTx h h2) hB h1 (by omega), bnp_ok, e2, if_pos (show nI 32 = 32 from rfl), lt_ok, h1, nI_1]
    rfl
  · rintro s ⟨h1, h2⟩
    rw [show p + (tS B n p - p) = tS B n p by omega] at h1
    refine ⟨s, ?_, h1, h2⟩
    unfold f10_nextToken_L0
    by_cases hz : tS B n p < n
    · have e := sc_out (P := pB) (B := B) hp hz
      have e2 : ¬ B (tS B n p) = 32 := of_decide_eq_false e
      have hb := hB.2 _ hz
      rw [M_here (Fr_MTx h h2) hB h1 hz, bnp_ok, if_neg (show ¬ nI (B (tS B n p)) = 32 from ne_nI (b := 32) (by omega) (by decide) e2)]
    · rw [M_here_end (Fr_MTx h h2) hB h1 (by omega) (by omega), bnp_ok, if_neg (by decide)]
/-- the code of a word -/
def cd (B : Nat → Nat) (q : Nat) : Nat → Nat
  | 0 => 0
  | k + 1 => if k < 6 then 27 * cd B q k + (B (q + k) - 96) else cd B q k
def sv (B : Nat → Nat) (q k : Nat) : Nat := if k ≤ 6 then 0 else if k = 7 then B (q + 6) - 96 else 99
theorem cd_lt {B : Nat → Nat} {q : Nat} : ∀ k, (∀ i, i < k → 97 ≤ B (q + i) ∧ B (q + i) ≤ 122) → cd B q k < 387420489 ∧ (k < 6 → cd B q k < 14348907) := by
  intro k
  have key : ∀ k, k ≤ 6 → (∀ i, i < k → 97 ≤ B (q + i) ∧ B (q + i) ≤ 122) → cd B q k < 27 ^ k := by
    intro k
    induction k with
    | zero => intro _ _; exact (by decide : 0 < 27 ^ 0)
    | succ k ih =>
      intro h1 h2
      have h3 := ih (by omega) (fun i hi => h2 i (by omega))
      have h4 := h2 k (by omega)
      rw [cd, if_pos (by omega), Nat.pow_succ]
      omega
  induction k with
  | zero => intro _; exact ⟨(by decide : 0 < 387420489), fun _ => (by decide : 0 < 14348907)⟩
  | succ k ih =>
    intro h
    have h1 := ih (fun i hi => h i (by omega))
    have h2 := h k (by omega)
    by_cases hk : k < 6
    · have h3 := key (k + 1) (by omega) h
      have h4 : 27 ^ (k + 1) ≤ 27 ^ 6 := Nat.pow_le_pow_right (by decide) (by omega)
      refine ⟨by omega, fun hk2 => ?_⟩
      have h5 : 27 ^ (k + 1) ≤ 27 ^ 5 := Nat.pow_le_pow_right (by decide) (by omega)
      omega
    · rw [cd, if_neg hk]
      exact ⟨h1.1, fun hk2 => by omega⟩
theorem M_wordloop {n : Nat} {B : Nat → Nat} {S : Mem} {N q : Nat} (h : MTx n B S) (hB : GTx n B) (hp : q ≤ n) (hN : 200 < N) (h6 : (S 57).1 6 = nI q) (h7 : (S 57).1 7 = nI q) : ∃ S', lp N (fun s : Int32 × Int32 × Mem => f10_nextToken_L67 N s.1 s.2.1 s.2.2) ((0 : Int32), (0 : Int32), S) = some (nI (cd B q (sc pL B n q - q)), nI (sv B q (sc pL B n q - q)), S') ∧ (S' 57).1 6 = nI (sc pL B n q) ∧ (S' 57).1 7 = nI q ∧ Fr S S' := by
  have hn := hB.1
  have hs := sc_le (P := pL) (B := B) hp
  have hl : ∀ j, j < sc pL B n q - q → 97 ≤ B (q + j) ∧ B (q + j) ≤ 122 := fun j hj => of_decide_eq_true (sc_in (P := pL) (B := B) (n := n) (p := q) (j := q + j) (by omega) (by omega))
  obtain ⟨r, k1, k2, k3, k4, k5, k6⟩ := lp_inv (f := fun s : Int32 × Int32 × Mem => f10_nextToken_L67 N s.1 s.2.1 s.2.2) (s := ((0 : Int32), (0 : Int32), S)) (N := N)
    (fun i s => s.1 = nI (cd B q i) ∧ s.2.1 = nI (sv B q i) ∧ (s.2.2 57).1 6 = nI (q + i) ∧ (s.2.2 57).1 7 = nI q ∧ Fr S s.2.2)
    (fun s => s.1 = nI (cd B q (sc pL B n q - q)) ∧ s.2.1 = nI (sv B q (sc pL B n q - q)) ∧ (s.2.2 57).1 6 = nI (sc pL B n q) ∧ (s.2.2 57).1 7 = nI q ∧ Fr S s.2.2) (sc pL B n q - q)
    (by
      rintro i ⟨x, y, U⟩ hi ⟨hx, hy, h1, h2, h3⟩
      dsimp only at hx hy h1 h2 h3 ⊢
      subst hx; subst hy
      have e := sc_in (P := pL) (B := B) (n := n) (p := q) (j := q + i) (by omega) (by omega)
      have hq : q + i < n := by omega
      have hbi := hl i hi
      have hc := (cd_lt (B := B) (q := q) i (fun j hj => hl j (by omega)))
      have hh := M_here (N := N) (Fr_MTx h h3) hB h1 hq
      refine ⟨(nI (cd B q (i + 1)), nI (sv B q (i + 1)), wr U 57 6 (nI (q + (i + 1)))), ?_, rfl, rfl, wr_val U 57 6 _, ?_, Fr_tr h3 (Fr_wr _ _ (Or.inl rfl))⟩
      · unfold f10_nextToken_L67 f10_nextToken_b115 f10_nextToken_b146
        rw [hh, bnp_ok, fM_btw, bnp_ok, btw_L (hB.2 _ hq), if_pos e, if_neg (by decide), lt_ok, h1, h2, pk_sub (by omega), show q + i - q = i by omega, bnp_ok]
        by_cases h6 : 6 ≤ i
        · have e6 : (6 : Int32) ≤ nI i := nI_le (a := 6) h6 (by omega)
          rw [if_pos e6]
          have ec : cd B q (i + 1) = cd B q i := by rw [cd, if_neg (by omega)]
          by_cases h7 : i = 6
          · rw [if_pos (show nI i = 6 by rw [h7]; rfl), lt_ok, nI_1, ec]
            have es : nI (B (q + i)) - 96 = nI (sv B q (i + 1)) := by
              unfold sv
              rw [if_neg (by omega), if_pos (by omega), h7, show (96 : Int32) = nI 96 from rfl, pk_sub (by rw [h7] at hbi; omega)]
            rw [es]
            rfl
          · have e7 : ¬ nI i = 6 := ne_nI (b := 6) (by omega) (by decide) h7
            have e8 : ¬ nI i ≤ 6 := nI_ge (a := 6) (by omega) (by omega)
            rw [if_neg e7, if_neg e8, lt_ok, nI_1, ec]
            have es : (99 : Int32) = nI (sv B q (i + 1)) := by
              unfold sv
              rw [if_neg (by omega), if_neg (by omega)]
              rfl
            rw [es]
            rfl
        · have e6 : ¬ (6 : Int32) ≤ nI i := nI_ge (b := 6) (by omega) (by decide)
          have e7 : ¬ nI i = 6 := ne_nI (b := 6) (by omega) (by decide) (by omega)
          have e8 : nI i ≤ 6 := nI_le (b := 6) (by omega) (by decide)
          have hc2 := hc.2 (by omega)
          have ec : (27 : Int32) * nI (cd B q i) + nI (B (q + i)) - 96 = nI (cd B q (i + 1)) := by
            rw [cd, if_pos (by omega), show (27 : Int32) = nI 27 from rfl, pk_mul, nI_add, show (96 : Int32) = nI 96 from rfl, pk_sub (by omega)]
            congr 1
            omega
          have es : sv B q (i + 1) = sv B q i := by
            unfold sv
            rw [if_pos (by omega), if_pos (by omega)]
          rw [if_neg e6, bnp_ok, if_neg e7, if_pos e8, lt_ok, nI_1, ec, es]
          rfl
      · exact (wr_oth (by decide)).trans h2)
    (by
      rintro ⟨x, y, U⟩ ⟨hx, hy, h1, h2, h3⟩
      dsimp only at hx hy h1 h2 h3 ⊢
      subst hx; subst hy
      rw [show q + (sc pL B n q - q) = sc pL B n q by omega] at h1
      refine ⟨(nI (cd B q (sc pL B n q - q)), nI (sv B q (sc pL B n q - q)), U), ?_, rfl, rfl, h1, h2, h3⟩
      unfold f10_nextToken_L67
      by_cases hz : sc pL B n q < n
      · have e := sc_out (P := pL) (B := B) hp hz
        rw [M_here (Fr_MTx h h3) hB h1 hz, bnp_ok, fM_btw, bnp_ok, btw_L (hB.2 _ hz), e, if_pos (show (if false = true then (1 : Int32) else 0) = 0 by decide)]
      · rw [M_here_end (Fr_MTx h h3) hB h1 (by omega) (by omega), bnp_ok, fM_btw, bnp_ok, show btw (-1) 97 122 = 0 by decide, if_pos rfl])
    (by omega) ⟨rfl, rfl, h6, h7, Fr_refl S⟩
  refine ⟨r.2.2, ?_, k4, k5, k6⟩
  rw [k1, ← k2, ← k3]
/-- which word -/
def mk (k : Nat) : Nat := [3, 6, 0, 1, 2, 4, 5].getD k 6
def mW (c s : Nat) : Nat := if c = 10793230 ∧ s = 0 then 0 else if c = 11570 ∧ s = 0 then 1 else if c = 91029992 ∧ s = 19 then 2 else 6
theorem isW_0 {B : Nat → Nat} {q e : Nat} : isW B 0 q e ↔ e - q = 5 ∧ B q = 116 ∧ B (q + 1) = 104 ∧ B (q + 2) = 105 ∧ B (q + 3) = 110 ∧ B (q + 4) = 103 := by
  unfold isW
  show e - q = 5 ∧ (∀ k, k < 5 → _) ↔ _
  constructor
  · rintro ⟨h, h1⟩
    exact ⟨h, h1 0 (by decide), h1 1 (by decide), h1 2 (by decide), h1 3 (by decide), h1 4 (by decide)⟩
  · rintro ⟨h, h0, h1, h2, h3, h4⟩
    refine ⟨h, fun k hk => ?_⟩
    rcases (show k = 0 ∨ k = 1 ∨ k = 2 ∨ k = 3 ∨ k = 4 by omega) with rfl | rfl | rfl | rfl | rfl
    · exact h0
    · exact h1
    · exact h2
    · exact h3
    · exact h4
theorem isW_1 {B : Nat → Nat} {q e : Nat} : isW B 1 q e ↔ e - q = 3 ∧ B q = 111 ∧ B (q + 1) = 119 ∧ B (q + 2) = 110 := by
  unfold isW
  show e - q = 3 ∧ (∀ k, k < 3 → _) ↔ _
  constructor
  · rintro ⟨h, h1⟩
    exact ⟨h, h1 0 (by decide), h1 1 (by decide), h1 2 (by decide)⟩
  · rintro ⟨h, h0, h1, h2⟩
    refine ⟨h, fun k hk => ?_⟩
    rcases (show k = 0 ∨ k = 1 ∨ k = 2 by omega) with rfl | rfl | rfl
    · exact h0
    · exact h1
    · exact h2
theorem isW_2 {B : Nat → Nat} {q e : Nat} : isW B 2 q e ↔ e - q = 7 ∧ B q = 102 ∧ B (q + 1) = 105 ∧ B (q + 2) = 103 ∧ B (q + 3) = 117 ∧ B (q + 4) = 114 ∧ B (q + 5) = 101 ∧ B (q + 6) = 115 := by
  unfold isW
  show e - q = 7 ∧ (∀ k, k < 7 → _) ↔ _
  constructor
  · rintro ⟨h, h1⟩
    exact ⟨h, h1 0 (by decide), h1 1 (by decide), h1 2 (by decide), h1 3 (by decide), h1 4 (by decide), h1 5 (by decide), h1 6 (by decide)⟩
  · rintro ⟨h, h0, h1, h2, h3, h4, h5, h6⟩
    refine ⟨h, fun k hk => ?_⟩
    rcases (show k = 0 ∨ k = 1 ∨ k = 2 ∨ k = 3 ∨ k = 4 ∨ k = 5 ∨ k = 6 by omega) with rfl | rfl | rfl | rfl | rfl | rfl | rfl
    · exact h0
    · exact h1
    · exact h2
    · exact h3
    · exact h4
    · exact h5
    · exact h6
theorem cd_6 {B : Nat → Nat} {q k : Nat} (h : 6 ≤ k) : cd B q k = cd B q 6 := by
  induction k with
  | zero => omega
  | succ k ih =>
    by_cases e : k + 1 = 6
    · rw [e]
    · rw [cd, if_neg (by omega)]
      exact ih (by omega)
theorem word_code {B : Nat → Nat} {q e : Nat} (hqe : q ≤ e) (hl : ∀ j, j < e - q → 97 ≤ B (q + j) ∧ B (q + j) ≤ 122) :
    (isW B 0 q e ↔ cd B q (e - q) = 10793230 ∧ sv B q (e - q) = 0) ∧ (isW B 1 q e ↔ cd B q (e - q) = 11570 ∧ sv B q (e - q) = 0) ∧ (isW B 2 q e ↔ cd B q (e - q) = 91029992 ∧ sv B q (e - q) = 19) := by
  rw [isW_0, isW_1, isW_2]
  generalize hL : e - q = L at hl ⊢
  have g0 := hl 0
  have g1 := hl 1
  have g2 := hl 2
  have g3 := hl 3
  have g4 := hl 4
  have g5 := hl 5
  have g6 := hl 6
  rw [Nat.add_zero] at g0
  have c0 : cd B q 0 = 0 := rfl
  have c1 : cd B q 1 = 27 * cd B q 0 + (B q - 96) := rfl
  have c2 : cd B q 2 = 27 * cd B q 1 + (B (q + 1) - 96) := rfl
  have c3 : cd B q 3 = 27 * cd B q 2 + (B (q + 2) - 96) := rfl
  have c4 : cd B q 4 = 27 * cd B q 3 + (B (q + 3) - 96) := rfl
  have c5 : cd B q 5 = 27 * cd B q 4 + (B (q + 4) - 96) := rfl
  have c6 : cd B q 6 = 27 * cd B q 5 + (B (q + 5) - 96) := rfl
  rcases (show L = 0 ∨ L = 1 ∨ L = 2 ∨ L = 3 ∨ L = 4 ∨ L = 5 ∨ L = 6 ∨ L = 7 ∨ 8 ≤ L by omega) with rfl | rfl | rfl | rfl | rfl | rfl | rfl | rfl | h8
  · have s : sv B q 0 = 0 := rfl
    rw [s]
    clear g0 g1 g2 g3 g4 g5 g6 hl c1 c2 c3 c4 c5 c6
    refine ⟨⟨fun h => ?_, fun h => ?_⟩, ⟨fun h => ?_, fun h => ?_⟩, ⟨fun h => ?_, fun h => ?_⟩⟩ <;> exfalso
    · omega
    · omega
    · omega
    · omega
    · omega
    · omega
  · have s : sv B q 1 = 0 := rfl
    rw [s]
    have g0' := g0 (by decide)
    clear g0 g1 g2 g3 g4 g5 g6 hl c2 c3 c4 c5 c6
    refine ⟨⟨fun h => ?_, fun h => ?_⟩, ⟨fun h => ?_, fun h => ?_⟩, ⟨fun h => ?_, fun h => ?_⟩⟩ <;> exfalso
    · omega
    · omega
    · omega
    · omega
    · omega
    · omega
  · have s : sv B q 2 = 0 := rfl
    rw [s]
    have g0' := g0 (by decide)
    have g1' := g1 (by decide)
    clear g0 g1 g2 g3 g4 g5 g6 hl c3 c4 c5 c6
    refine ⟨⟨fun h => ?_, fun h => ?_⟩, ⟨fun h => ?_, fun h => ?_⟩, ⟨fun h => ?_, fun h => ?_⟩⟩ <;> exfalso
    · omega
    · omega
    · omega
    · omega
    · omega
    · omega
  · have s : sv B q 3 = 0 := rfl
    rw [s]
    have g0' := g0 (by decide)
    have g1' := g1 (by decide)
    have g2' := g2 (by decide)
    clear g0 g1 g2 g3 g4 g5 g6 c4 c5 c6 hl
    refine ⟨⟨fun h => by exfalso; omega, fun h => by exfalso; omega⟩, ⟨fun h => ⟨by omega, by omega⟩, fun h => ?_⟩, ⟨fun h => by exfalso; omega, fun h => by exfalso; omega⟩⟩
    have e2 : B (q + 2) = 110 := by omega
    have e1 : B (q + 1) = 119 := by omega
    exact ⟨rfl, by omega, e1, e2⟩
  · have s : sv B q 4 = 0 := rfl
    rw [s]
    have g0' := g0 (by decide)
    have g1' := g1 (by decide)
    have g2' := g2 (by decide)
    have g3' := g3 (by decide)
    clear g0 g1 g2 g3 g4 g5 g6 hl c5 c6
    refine ⟨⟨fun h => ?_, fun h => ?_⟩, ⟨fun h => ?_, fun h => ?_⟩, ⟨fun h => ?_, fun h => ?_⟩⟩ <;> exfalso
    · omega
    · omega
    · omega
    · omega
    · omega
    · omega
  · have s : sv B q 5 = 0 := rfl
    rw [s]
    have g0' := g0 (by decide)
    have g1' := g1 (by decide)
    have g2' := g2 (by decide)
    have g3' := g3 (by decide)
    have g4' := g4 (by decide)
    clear g0 g1 g2 g3 g4 g5 g6 c6 hl
    refine ⟨⟨fun h => ⟨by omega, by omega⟩, fun h => ?_⟩, ⟨fun h => by exfalso; omega, fun h => by exfalso; omega⟩, ⟨fun h => by exfalso; omega, fun h => by exfalso; omega⟩⟩
    have e4 : B (q + 4) = 103 := by omega
    have e3 : B (q + 3) = 110 := by omega
    have e2 : B (q + 2) = 105 := by omega
    have e1 : B (q + 1) = 104 := by omega
    exact ⟨rfl, by omega, e1, e2, e3, e4⟩
  · have s : sv B q 6 = 0 := rfl
    rw [s]
    have g0' := g0 (by decide)
    have g1' := g1 (by decide)
    have g2' := g2 (by decide)
    have g3' := g3 (by decide)
    have g4' := g4 (by decide)
    have g5' := g5 (by decide)
    clear g0 g1 g2 g3 g4 g5 g6 hl
    refine ⟨⟨fun h => ?_, fun h => ?_⟩, ⟨fun h => ?_, fun h => ?_⟩, ⟨fun h => ?_, fun h => ?_⟩⟩ <;> exfalso
    · omega
    · omega
    · omega
    · omega
    · omega
    · omega
  · have s : sv B q 7 = B (q + 6) - 96 := rfl
    have s6 : cd B q 7 = cd B q 6 := cd_6 (by decide)
    rw [s, s6]
    have g0' := g0 (by decide)
    have g1' := g1 (by decide)
    have g2' := g2 (by decide)
    have g3' := g3 (by decide)
    have g4' := g4 (by decide)
    have g5' := g5 (by decide)
    have g6' := g6 (by decide)
    clear g0 g1 g2 g3 g4 g5 g6 hl
    refine ⟨⟨fun h => by exfalso; omega, fun h => by exfalso; omega⟩, ⟨fun h => by exfalso; omega, fun h => by exfalso; omega⟩, ⟨fun h => ⟨by omega, by omega⟩, fun h => ?_⟩⟩
    have e5 : B (q + 5) = 101 := by omega
    have e4 : B (q + 4) = 114 := by omega
    have e3 : B (q + 3) = 117 := by omega
    have e2 : B (q + 2) = 103 := by omega
    have e1 : B (q + 1) = 105 := by omega
    exact ⟨rfl, by omega, e1, e2, e3, e4, e5, by omega⟩
  · have s : sv B q L = 99 := by
      unfold sv
      rw [if_neg (by omega), if_neg (by omega)]
    rw [s]
    clear g0 g1 g2 g3 g4 g5 g6 hl c0 c1 c2 c3 c4 c5 c6
    refine ⟨⟨fun h => ?_, fun h => ?_⟩, ⟨fun h => ?_, fun h => ?_⟩, ⟨fun h => ?_, fun h => ?_⟩⟩ <;> exfalso
    · have := h.1; omega
    · have := h.2; omega
    · have := h.1; omega
    · have := h.2; omega
    · have := h.1; omega
    · have := h.2; omega
theorem mW_ok {B : Nat → Nat} {n q : Nat} (hq : q ≤ n) : mW (cd B q (sc pL B n q - q)) (sv B q (sc pL B n q - q)) = mk (kW B n q) := by
  have hs := sc_le (P := pL) (B := B) hq
  obtain ⟨h0, h1, h2⟩ := word_code (B := B) (q := q) (e := sc pL B n q) hs.1 (fun j hj => of_decide_eq_true (sc_in (P := pL) (B := B) (n := n) (p := q) (j := q + j) (by omega) (by omega)))
  unfold mW kW
  rw [← wq_iff] at h0 h1 h2
  by_cases k0 : wq B 0 q (sc pL B n q) = true
  · rw [if_pos k0, if_pos (h0.mp k0)]; rfl
  · rw [if_neg k0, if_neg (fun z => k0 (h0.mpr z))]
    by_cases k1 : wq B 1 q (sc pL B n q) = true
    · rw [if_pos k1, if_pos (h1.mp k1)]; rfl
    · rw [if_neg k1, if_neg (fun z => k1 (h1.mpr z))]
      by_cases k2 : wq B 2 q (sc pL B n q) = true
      · rw [if_pos k2, if_pos (h2.mp k2)]; rfl
      · rw [if_neg k2, if_neg (fun z => k2 (h2.mpr z))]; rfl
theorem M_word_tok {N c s : Nat} {S : Mem} (hc : c < 2 ^ 31) (hs : s < 2 ^ 31) : f10_nextToken_b160 N (nI c) (nI s) S = some ((), wr S 57 8 (nI (mW c s))) := by
  unfold f10_nextToken_b160 f10_nextToken_b175 f10_nextToken_b190 f10_nextToken_b206 f10_nextToken_b208 mW
  rw [show (10793230 : Int32) = nI 10793230 from rfl, show (11570 : Int32) = nI 11570 from rfl, show (91029992 : Int32) = nI 91029992 from rfl, show (19 : Int32) = nI 19 from rfl, show (0 : Int32) = nI 0 from rfl]
  simp (disch := omega) only [nI_eq]
  by_cases h0 : c = 10793230
  · have n1 : ¬ c = 11570 := by omega
    have n2 : ¬ c = 91029992 := by omega
    by_cases h1 : s = 0
    · simp only [h0, h1, if_true, and_self, lt_ok]
    · simp only [h0, h1, if_true, if_false, and_false, lt_ok, show ¬ (10793230 = 11570) by decide, show ¬ (10793230 = 91029992) by decide, false_and]
      rfl
  · by_cases h1 : c = 11570
    · by_cases h2 : s = 0
      · simp only [h1, h2, if_true, if_false, and_self, false_and, lt_ok, show ¬ (11570 = 10793230) by decide]
        rfl
      · simp only [h1, h2, if_true, if_false, and_false, lt_ok, show ¬ (11570 = 10793230) by decide, show ¬ (11570 = 91029992) by decide, false_and]
        rfl
    · by_cases h2 : c = 91029992
      · by_cases h3 : s = 19
        · simp only [h2, h3, if_true, if_false, and_self, false_and, lt_ok, show ¬ (91029992 = 10793230) by decide, show ¬ (91029992 = 11570) by decide]
          rfl
        · simp only [h2, h3, if_true, if_false, and_false, lt_ok, show ¬ (91029992 = 10793230) by decide, show ¬ (91029992 = 11570) by decide, false_and]
          rfl
      · simp only [h0, h1, h2, if_false, false_and, lt_ok]
        rfl
