/-! BITS COUNTED; SACKS; TURNS -/
def pop (n : Nat) : Nat := fb_sm (fun i => bt2 n i) 12
def bitC (a0 : Int32) : Int32 :=
  let x1 := a0 - ((a0.toUInt32 >>> ((1 : Int32).toUInt32 &&& Int32.toUInt32 31)).toInt32 &&& 1431655765)
  let x2 := (x1 &&& 858993459) + ((x1.toUInt32 >>> ((2 : Int32).toUInt32 &&& Int32.toUInt32 31)).toInt32 &&& 858993459)
  let x3 := (x2 + (x2.toUInt32 >>> ((4 : Int32).toUInt32 &&& Int32.toUInt32 31)).toInt32) &&& 252645135
  let x4 := x3 + (x3.toUInt32 >>> ((8 : Int32).toUInt32 &&& Int32.toUInt32 31)).toInt32
  let x5 := x4 + (x4.toUInt32 >>> ((16 : Int32).toUInt32 &&& Int32.toUInt32 31)).toInt32
  x5 &&& 63
theorem bitC_small : ∀ a, a < 64 → ∀ b, b < 64 → bitC (nI (64 * a + b)) = nI (pop (64 * a + b)) := by decide +kernel
theorem f_bitCount {N n : Nat} {S : Mem} (h : n < 4096) : fJ6_bitCount N (nI n) S = some (nI (pop n)) := by
  have e := bitC_small (n / 64) (by omega) (n % 64) (by omega)
  rw [show 64 * (n / 64) + n % 64 = n by omega] at e
  rw [← e]
  rfl
theorem f_bitsIn {N n : Nat} {S : Mem} (h : n < 2 ^ 31) (hN : 12 < N) : f10_bitsIn N (nI n) S = some (nI (pop n)) := by
  unfold f10_bitsIn
  have h := lp_seq (f := fun s : Int32 × Int32 => f10_bitsIn_L4 N (nI n) s.1 s.2 S) (fun i => (nI (fb_sm (fun i => bt2 n i) i), nI i)) (r := nI (pop n)) (N := N) 12 (fun i hi => ?_) ?_ hN
  · have h2 : lp N (fun s : Int32 × Int32 => f10_bitsIn_L4 N (nI n) s.1 s.2 S) ((0 : Int32), (0 : Int32)) = some (nI (pop n)) := h
    rw [h2, bnp_ok]
    rfl
  · dsimp only
    unfold f10_bitsIn_L4
    rw [if_neg (show ¬ (12 : Int32) ≤ nI i from nI_ge (b := 12) hi (by decide)), fb_sm_succ]
    simp (disch := omega) only [bnp_ok, bnd_ok, lt_ok, c0, c1, c2, c3, nI_clamp, nI_neg, nI_ltI, nI_leI, nI_eq, lt_t, lt_f, le_t, le_f, eq_t, eq_f, or_true, true_or, or_false, false_or, if_true, if_false, not_true, not_false_iff, z0, o0, o1, and_true, true_and, and_false, false_and, bit_nI, nI_add, nI_1]
  · dsimp only
    unfold f10_bitsIn_L4
    rw [if_pos (by decide)]
    rfl
theorem pop8 : ∀ a, a < 8 → ∀ b, b < 8 → a &&& b = 0 → pop (a ||| b) = pop a + pop b ∧ pop a + pop b < 4 ∧ a ||| b < 8 := by decide +kernel
theorem pop8_le : ∀ a, a < 8 → pop a ≤ 3 := by decide +kernel
theorem sub_eq {a b w : Nat} (ha : a < 2 ^ 30) (hb : b < 2 ^ 30) (hw : w < 2 ^ 31) : (nI a - nI b = nI w) = (a = b + w) := by
  apply propext
  rw [fa_eq, pk_sub_toInt ha hb, nI_toInt hw]
  omega
abbrev So : Type := Option (Nat × Nat)
def eX1 (s : So) : Int32 := match s with | none => 4 | some p => nI (pop p.1 + pop p.2)
def eX2 (s : So) : Int32 := match s with | none => -1 | some p => nI (p.1 * 8 + p.2)
def eMa (s : So) : Int32 := match s with | none => -9 | some p => nI p.1
def eMb (s : So) : Int32 := match s with | none => -9 | some p => nI p.2
def sok (s : So) : Prop := match s with | none => True | some p => p.1 < 8 ∧ p.2 < 8 ∧ p.1 &&& p.2 = 0
/-- one pair more is looked at -/
def stp (W : Nat → Nat) (T w : Nat) (s : So) (a b : Nat) : So :=
  if a &&& b = 0 ∧ ldw W a T = ldw W b T + w then (match s with | none => some (a, b) | some p => if pop a + pop b < pop p.1 + pop p.2 then some (a, b) else some p) else s
def rst (W : Nat → Nat) (T w : Nat) (s : So) (a : Nat) : Nat → So
  | 0 => s
  | b + 1 => stp W T w (rst W T w s a b) a b
def ost (W : Nat → Nat) (T w : Nat) : Nat → So
  | 0 => none
  | a + 1 => rst W T w (ost W T w a) a (2 ^ T)
theorem stp_ok {W : Nat → Nat} {T w : Nat} {s : So} {a b : Nat} (hs : sok s) (ha : a < 8) (hb : b < 8) : sok (stp W T w s a b) := by
  unfold stp
  split
  · rename_i h
    cases s with
    | none => exact ⟨ha, hb, h.1⟩
    | some p =>
      dsimp only
      split
      · exact ⟨ha, hb, h.1⟩
      · exact hs
  · exact hs
theorem rst_ok {W : Nat → Nat} {T w : Nat} {s : So} {a : Nat} (hs : sok s) (ha : a < 8) : ∀ b, b ≤ 8 → sok (rst W T w s a b)
  | 0, _ => hs
  | b + 1, h => stp_ok (rst_ok hs ha b (by omega)) ha (by omega)
theorem ost_ok {W : Nat → Nat} {T w : Nat} (hT : T ≤ 3) : ∀ a, a ≤ 8 → sok (ost W T w a)
  | 0, _ => trivial
  | a + 1, h => rst_ok (ost_ok hT a (by omega)) (by omega) _ (pow3 hT).1
theorem ld8 {W : Nat → Nat} {T s : Nat} (hT : T ≤ 3) (hW : ∀ i, i < T → W i ≤ 9) : ldw W s T ≤ 27 := by
  have := ldw_le (W := W) (s := s) (T := T) (c := 9) hW
  omega
theorem X_sack_step {T : Nat} {W : Nat → Nat} {O F : Nat} {S : Mem} {N w a b : Nat} {s : So} (hX : XSc T W O F S) (hT : T ≤ 3) (hW : ∀ i, i < T → W i ≤ 9) (hN : 3 < N) (hw : w ≤ 27) (ha : a < 2 ^ T) (hb : b < 2 ^ T) (hs : sok s) : f6_sidesOf_10_L19 N (nI w) (nI a) (eX1 s) (eX2 s) (nI b) S = some (.inl (eX1 (stp W T w s a b), eX2 (stp W T w s a b), nI (b + 1))) := by
  have a8 := sx_lt hT ha
  have b8 := sx_lt hT hb
  have p3 := pow3 hT
  have hla := ld8 (W := W) (s := a) hT hW
  have hlb := ld8 (W := W) (s := b) hT hW
  unfold f6_sidesOf_10_L19
  rw [f6_sets_ok hX hT, bnp_ok, if_neg (nI_ge hb (by omega)), f_bitCount (by omega), bnp_ok, f_bitCount (by omega), bnp_ok, lt_ok, fa_and, nI_add]
  unfold stp
  by_cases h0 : a &&& b = 0
  · rw [if_pos (show nI (a &&& b) = 0 by rw [h0]; rfl), f6_loadOf_ok hX hT (by omega) hN, bnp_ok, f6_loadOf_ok hX hT (by omega) hN, bnp_ok]
    by_cases h1 : ldw W a T = ldw W b T + w
    · rw [if_pos (show nI (ldw W a T) - nI (ldw W b T) = nI w by rw [sub_eq (by omega) (by omega) (by omega)]; exact h1), if_pos ⟨h0, h1⟩]
      obtain ⟨q1, q2, q3⟩ := pop8 a a8 b b8 h0
      unfold f6_sidesOf_10_b71 f6_sidesOf_10_b96
      cases s with
      | none =>
        rw [if_neg (by decide), if_neg (show ¬ eX1 none ≤ nI (pop a + pop b) from nI_ge (b := 4) q2 (by decide))]
        dsimp only
        simp (disch := omega) only [bnp_ok, bnd_ok, lt_ok, c0, c1, c2, c3, nI_clamp, nI_neg, nI_ltI, nI_leI, nI_eq, lt_t, lt_f, le_t, le_f, eq_t, eq_f, or_true, true_or, or_false, false_or, if_true, if_false, not_true, not_false_iff, z0, o0, o1, and_true, true_and, and_false, false_and, l8, pk_mul, nI_add, nI_1, eX1, eX2]
      | some p =>
        dsimp only
        rw [if_neg (by decide)]
        have hp1 := pop8_le p.1 hs.1
        have hp2 := pop8_le p.2 hs.2.1
        by_cases h2 : pop a + pop b < pop p.1 + pop p.2
        · rw [if_neg (show ¬ eX1 (some p) ≤ nI (pop a + pop b) from nI_ge h2 (by omega)), if_pos h2]
          simp (disch := omega) only [bnp_ok, bnd_ok, lt_ok, c0, c1, c2, c3, nI_clamp, nI_neg, nI_ltI, nI_leI, nI_eq, lt_t, lt_f, le_t, le_f, eq_t, eq_f, or_true, true_or, or_false, false_or, if_true, if_false, not_true, not_false_iff, z0, o0, o1, and_true, true_and, and_false, false_and, l8, pk_mul, nI_add, nI_1, eX1, eX2]
        · rw [if_pos (show eX1 (some p) ≤ nI (pop a + pop b) from nI_le (by omega) (by omega)), if_neg h2]
          simp (disch := omega) only [bnp_ok, bnd_ok, lt_ok, c0, c1, c2, c3, nI_clamp, nI_neg, nI_ltI, nI_leI, nI_eq, lt_t, lt_f, le_t, le_f, eq_t, eq_f, or_true, true_or, or_false, false_or, if_true, if_false, not_true, not_false_iff, z0, o0, o1, and_true, true_and, and_false, false_and, nI_1]
    · rw [if_neg (show ¬ nI (ldw W a T) - nI (ldw W b T) = nI w by rw [sub_eq (by omega) (by omega) (by omega)]; exact h1), if_neg (fun h => h1 h.2)]
      unfold f6_sidesOf_10_b70 f6_sidesOf_10_b71 f6_sidesOf_10_b96
      simp (disch := omega) only [bnp_ok, bnd_ok, lt_ok, c0, c1, c2, c3, nI_clamp, nI_neg, nI_ltI, nI_leI, nI_eq, lt_t, lt_f, le_t, le_f, eq_t, eq_f, or_true, true_or, or_false, false_or, if_true, if_false, not_true, not_false_iff, z0, o0, o1, and_true, true_and, and_false, false_and, nI_1]
  · have a4 : a &&& b < 8 := Nat.lt_of_le_of_lt Nat.and_le_left a8
    rw [if_neg (show ¬ nI (a &&& b) = 0 from ne_nI (b := 0) (by omega) (by decide) h0), if_neg (fun h => h0 h.1)]
    unfold f6_sidesOf_10_b70 f6_sidesOf_10_b71 f6_sidesOf_10_b96
    simp (disch := omega) only [bnp_ok, bnd_ok, lt_ok, c0, c1, c2, c3, nI_clamp, nI_neg, nI_ltI, nI_leI, nI_eq, lt_t, lt_f, le_t, le_f, eq_t, eq_f, or_true, true_or, or_false, false_or, if_true, if_false, not_true, not_false_iff, z0, o0, o1, and_true, true_and, and_false, false_and, nI_1]
theorem M_sack_step {T : Nat} {W : Nat → Nat} {O F : Nat} {S : Mem} {N w a b : Nat} {v2 : Int32} {s : So} (hX : MSc T W O F S) (hT : T ≤ 3) (hW : ∀ i, i < T → W i ≤ 9) (hO : O ≤ 9) (hN : 12 < N) (hw : w ≤ 27) (ha : a < 2 ^ T) (hb : b < 2 ^ T) (hs : sok s) : f10_sack_L47 N (nI w) v2 (nI a) (eMa s) (eMb s) (nI b) S = some (.inl (eMa (stp W T w s a b), eMb (stp W T w s a b), nI (b + 1))) := by
  have a8 := sx_lt hT ha
  have b8 := sx_lt hT hb
  have p3 := pow3 hT
  have hla := ld8 (W := W) (s := a) hT hW
  have hlb := ld8 (W := W) (s := b) hT hW
  unfold f10_sack_L47
  simp (disch := omega) only [bnp_ok, bnd_ok, lt_ok, c0, c1, c2, c3, nI_clamp, nI_neg, nI_ltI, nI_leI, nI_eq, lt_t, lt_f, le_t, le_f, eq_t, eq_f, or_true, true_or, or_false, false_or, if_true, if_false, not_true, not_false_iff, z0, o0, o1, and_true, true_and, and_false, false_and, hX.1]
  rw [shl_nI (by omega), if_neg (nI_ge hb (by omega)), fa_and]
  unfold stp
  by_cases h0 : a &&& b = 0
  · rw [if_pos (show nI (a &&& b) = 0 by rw [h0]; rfl), f10_trueSum_ok hX hT (by omega) (by omega), bnp_ok, f10_trueSum_ok hX hT (by omega) (by omega), bnp_ok]
    by_cases h1 : ldw W a T = ldw W b T + w
    · rw [if_pos (show nI (O + ldw W a T) - nI (O + ldw W b T) = nI w by rw [sub_eq (by omega) (by omega) (by omega)]; omega), if_pos ⟨h0, h1⟩]
      obtain ⟨q1, q2, q3⟩ := pop8 a a8 b b8 h0
      unfold f10_sack_b90 f10_sack_b121 f10_sack_b128
      cases s with
      | none =>
        rw [if_neg (by decide), if_pos (show eMa none = -9 from rfl)]
        dsimp only
        simp (disch := omega) only [bnp_ok, bnd_ok, lt_ok, c0, c1, c2, c3, nI_clamp, nI_neg, nI_ltI, nI_leI, nI_eq, lt_t, lt_f, le_t, le_f, eq_t, eq_f, or_true, true_or, or_false, false_or, if_true, if_false, not_true, not_false_iff, z0, o0, o1, and_true, true_and, and_false, false_and, nI_1, eMa, eMb]
      | some p =>
        dsimp only
        obtain ⟨s1, s2, s3⟩ := hs
        obtain ⟨r1, r2, r3⟩ := pop8 p.1 s1 p.2 s2 s3
        have hne : ¬ eMa (some p) = -9 := by
          show ¬ nI p.1 = -9
          rw [fa_eq, nI_toInt (by omega), show (-9 : Int32).toInt = -9 by decide]
          omega
        rw [if_neg (by decide), if_neg hne, fa_or, f_bitsIn (by omega) hN, bnp_ok]
        rw [show eMa (some p) ||| eMb (some p) = nI (p.1 ||| p.2) from fa_or _ _, f_bitsIn (by omega) hN, bnp_ok, q1, r1]
        by_cases h2 : pop a + pop b < pop p.1 + pop p.2
        · rw [if_neg (nI_ge h2 (by omega)), if_pos h2]
          simp (disch := omega) only [bnp_ok, bnd_ok, lt_ok, c0, c1, c2, c3, nI_clamp, nI_neg, nI_ltI, nI_leI, nI_eq, lt_t, lt_f, le_t, le_f, eq_t, eq_f, or_true, true_or, or_false, false_or, if_true, if_false, not_true, not_false_iff, z0, o0, o1, and_true, true_and, and_false, false_and, nI_1, eMa, eMb]
        · rw [if_pos (nI_le (by omega) (by omega)), if_neg h2]
          simp (disch := omega) only [bnp_ok, bnd_ok, lt_ok, c0, c1, c2, c3, nI_clamp, nI_neg, nI_ltI, nI_leI, nI_eq, lt_t, lt_f, le_t, le_f, eq_t, eq_f, or_true, true_or, or_false, false_or, if_true, if_false, not_true, not_false_iff, z0, o0, o1, and_true, true_and, and_false, false_and, nI_1]
    · rw [if_neg (show ¬ nI (O + ldw W a T) - nI (O + ldw W b T) = nI w by rw [sub_eq (by omega) (by omega) (by omega)]; omega), if_neg (fun h => h1 h.2)]
      unfold f10_sack_b89 f10_sack_b90 f10_sack_b128
      simp (disch := omega) only [bnp_ok, bnd_ok, lt_ok, c0, c1, c2, c3, nI_clamp, nI_neg, nI_ltI, nI_leI, nI_eq, lt_t, lt_f, le_t, le_f, eq_t, eq_f, or_true, true_or, or_false, false_or, if_true, if_false, not_true, not_false_iff, z0, o0, o1, and_true, true_and, and_false, false_and, nI_1]
  · have a4 : a &&& b < 8 := Nat.lt_of_le_of_lt Nat.and_le_left a8
    rw [if_neg (show ¬ nI (a &&& b) = 0 from ne_nI (b := 0) (by omega) (by decide) h0), if_neg (fun h => h0 h.1)]
    unfold f10_sack_b89 f10_sack_b90 f10_sack_b128
    simp (disch := omega) only [bnp_ok, bnd_ok, lt_ok, c0, c1, c2, c3, nI_clamp, nI_neg, nI_ltI, nI_leI, nI_eq, lt_t, lt_f, le_t, le_f, eq_t, eq_f, or_true, true_or, or_false, false_or, if_true, if_false, not_true, not_false_iff, z0, o0, o1, and_true, true_and, and_false, false_and, nI_1]
theorem X_sides_ok {T : Nat} {W : Nat → Nat} {O F : Nat} {S : Mem} {N w : Nat} (hX : XSc T W O F S) (hT : T ≤ 3) (hW : ∀ i, i < T → W i ≤ 9) (hN : 8 < N) (hw : w ≤ 27) : f6_sidesOf_10 N (nI w) S = some (eX2 (ost W T w (2 ^ T))) := by
  have p3 := pow3 hT
  unfold f6_sidesOf_10
  have h := lp_seq (f := fun s : Int32 × Int32 × Int32 => f6_sidesOf_10_L7 N (nI w) s.1 s.2.1 s.2.2 S) (fun a => (eX1 (ost W T w a), eX2 (ost W T w a), nI a)) (r := eX2 (ost W T w (2 ^ T))) (N := N) (2 ^ T) (fun a ha => ?_) ?_ (by omega)
  · have h2 : lp N (fun s : Int32 × Int32 × Int32 => f6_sidesOf_10_L7 N (nI w) s.1 s.2.1 s.2.2 S) ((4 : Int32), (-1 : Int32), (0 : Int32)) = some (eX2 (ost W T w (2 ^ T))) := h
    rw [h2, bnp_ok]
    rfl
  · dsimp only
    unfold f6_sidesOf_10_L7
    rw [f6_sets_ok hX hT, bnp_ok, if_neg (nI_ge ha (by omega))]
    have k := lp_seq (f := fun s : Int32 × Int32 × Int32 => f6_sidesOf_10_L19 N (nI w) (nI a) s.1 s.2.1 s.2.2 S) (fun b => (eX1 (rst W T w (ost W T w a) a b), eX2 (rst W T w (ost W T w a) a b), nI b)) (r := (eX1 (ost W T w (a + 1)), eX2 (ost W T w (a + 1)))) (N := N) (2 ^ T) (fun b hb => X_sack_step hX hT hW (by omega) hw ha hb (rst_ok (ost_ok hT a (by omega)) (by omega) b (by omega))) ?_ (by omega)
    · have k2 : lp N (fun s : Int32 × Int32 × Int32 => f6_sidesOf_10_L19 N (nI w) (nI a) s.1 s.2.1 s.2.2 S) (eX1 (ost W T w a), eX2 (ost W T w a), (0 : Int32)) = some (eX1 (ost W T w (a + 1)), eX2 (ost W T w (a + 1))) := k
      rw [k2, bnp_ok]
      unfold f6_sidesOf_10_b102
      rw [lt_ok, nI_1]
    · dsimp only
      unfold f6_sidesOf_10_L19
      rw [f6_sets_ok hX hT, bnp_ok, if_pos (nI_le (Nat.le_refl _) (by omega))]
      rfl
  · dsimp only
    unfold f6_sidesOf_10_L7
    rw [f6_sets_ok hX hT, bnp_ok, if_pos (nI_le (Nat.le_refl _) (by omega))]
theorem M_sack_loop {T : Nat} {W : Nat → Nat} {O F : Nat} {S : Mem} {N w : Nat} {v2 : Int32} (hX : MSc T W O F S) (hT : T ≤ 3) (hW : ∀ i, i < T → W i ≤ 9) (hO : O ≤ 9) (hN : 12 < N) (hw : w ≤ 27) : lp N (fun s : Int32 × Int32 × Int32 => f10_sack_L31 N (nI w) v2 s.1 s.2.1 s.2.2 S) ((-9 : Int32), (-9 : Int32), (0 : Int32)) = some (eMa (ost W T w (2 ^ T)), eMb (ost W T w (2 ^ T))) := by
  have p3 := pow3 hT
  refine lp_seq (f := fun s : Int32 × Int32 × Int32 => f10_sack_L31 N (nI w) v2 s.1 s.2.1 s.2.2 S) (fun a => (eMa (ost W T w a), eMb (ost W T w a), nI a)) (r := (eMa (ost W T w (2 ^ T)), eMb (ost W T w (2 ^ T)))) (N := N) (2 ^ T) (fun a ha => ?_) ?_ (by omega)
  · dsimp only
    unfold f10_sack_L31
    simp (disch := omega) only [bnp_ok, bnd_ok, lt_ok, c0, c1, c2, c3, nI_clamp, nI_neg, nI_ltI, nI_leI, nI_eq, lt_t, lt_f, le_t, le_f, eq_t, eq_f, or_true, true_or, or_false, false_or, if_true, if_false, not_true, not_false_iff, z0, o0, o1, and_true, true_and, and_false, false_and, hX.1]
    rw [shl_nI (by omega), if_neg (nI_ge ha (by omega))]
    have k := lp_seq (f := fun s : Int32 × Int32 × Int32 => f10_sack_L47 N (nI w) v2 (nI a) s.1 s.2.1 s.2.2 S) (fun b => (eMa (rst W T w (ost W T w a) a b), eMb (rst W T w (ost W T w a) a b), nI b)) (r := (eMa (ost W T w (a + 1)), eMb (ost W T w (a + 1)))) (N := N) (2 ^ T) (fun b hb => M_sack_step hX hT hW hO hN hw ha hb (rst_ok (ost_ok hT a (by omega)) (by omega) b (by omega))) ?_ (by omega)
    · have k2 : lp N (fun s : Int32 × Int32 × Int32 => f10_sack_L47 N (nI w) v2 (nI a) s.1 s.2.1 s.2.2 S) (eMa (ost W T w a), eMb (ost W T w a), (0 : Int32)) = some (eMa (ost W T w (a + 1)), eMb (ost W T w (a + 1))) := k
      rw [k2, bnp_ok]
      unfold f10_sack_b134
      rw [lt_ok, nI_1]
    · dsimp only
      unfold f10_sack_L47
      simp (disch := omega) only [bnp_ok, bnd_ok, lt_ok, c0, c1, c2, c3, nI_clamp, nI_neg, nI_ltI, nI_leI, nI_eq, lt_t, lt_f, le_t, le_f, eq_t, eq_f, or_true, true_or, or_false, false_or, if_true, if_false, not_true, not_false_iff, z0, o0, o1, and_true, true_and, and_false, false_and, hX.1]
      rw [shl_nI (by omega), if_pos (nI_le (Nat.le_refl _) (by omega))]
      rfl
  · dsimp only
    unfold f10_sack_L31
    simp (disch := omega) only [bnp_ok, bnd_ok, lt_ok, c0, c1, c2, c3, nI_clamp, nI_neg, nI_ltI, nI_leI, nI_eq, lt_t, lt_f, le_t, le_f, eq_t, eq_f, or_true, true_or, or_false, false_or, if_true, if_false, not_true, not_false_iff, z0, o0, o1, and_true, true_and, and_false, false_and, hX.1]
    rw [shl_nI (by omega), if_pos (nI_le (Nat.le_refl _) (by omega))]
theorem op_sack {a : Ab} {S : Mem} {N : Nat} (hN : 12 < N) (hG : GA a) (hX : XA a S) (hM : MA a S) (w k : Int32) : ∃ r, f9_sack N w k S = some r ∧ f10_sack N w k S = some r := by
  have hT := hG.2.1.1
  have hW := fun i hi => (hG.2.1.2.1 i hi).2
  have hO := hG.2.1.2.2.1
  unfold f9_sack f10_sack
  rcases btw_lit (i := w) (a := 0) (b := 27) (by decide) (by decide) with ⟨w, -, hw, rfl, hb⟩ | ⟨hne, hb⟩
  · rw [← l0, ← l27] at hb
    rcases btw_lit (i := k) (a := 0) (b := 2) (by decide) (by decide) with ⟨k, -, hk, rfl, hc⟩ | ⟨hne, hc⟩
    · rw [← l0, ← l2] at hc
      have h1 := X_sides_ok (N := N) hX.2.1 hT hW (by omega) hw
      have h2 := M_sack_loop (N := N) (v2 := nI k) hM.2.1 hT hW hO hN hw
      have h3 := ost_ok (W := a.2.1.2.1) (w := w) hT (2 ^ a.2.1.1) (pow3 hT).1
      simp (disch := omega) only [bnp_ok, bnd_ok, lt_ok, c0, c1, c2, c3, nI_clamp, nI_neg, nI_ltI, nI_leI, nI_eq, lt_t, lt_f, le_t, le_f, eq_t, eq_f, or_true, true_or, or_false, false_or, if_true, if_false, not_true, not_false_iff, z0, o0, o1, and_true, true_and, and_false, false_and, fX_btw, fM_btw, hb, hc, h1, h2]
      cases e : ost a.2.1.2.1 a.2.1.1 w (2 ^ a.2.1.1) with
      | none =>
        refine ⟨-9, ?_, ?_⟩
        · rw [if_neg (by decide)]
        · unfold f10_sack_b140 f10_sack_b160
          rcases (show k = 0 ∨ k = 1 ∨ k = 2 by omega) with rfl | rfl | rfl
          · rw [if_pos (show nI 0 = 0 from rfl), if_pos (show eMa none = -9 from rfl), if_neg (show ¬ nI 0 = 2 by decide)]
            rfl
          · rw [if_neg (show ¬ nI 1 = 0 by decide), if_neg (show ¬ nI 1 = 2 by decide)]
            rfl
          · rw [if_neg (show ¬ nI 2 = 0 by decide), if_pos (show nI 2 = 2 from rfl)]
            rfl
      | some p =>
        rw [e] at h3
        obtain ⟨s1, s2, s3⟩ := h3
        obtain ⟨r1, r2, r3⟩ := pop8 p.1 s1 p.2 s2 s3
        have e1 : eX2 (some p) / 8 = nI p.1 := by
          show nI (p.1 * 8 + p.2) / nI 8 = _
          rw [pk_div (by omega) (by omega) (by omega), show (p.1 * 8 + p.2) / 8 = p.1 by omega]
        have e2 : eX2 (some p) - eX2 (some p) / 8 * 8 = nI p.2 := by
          show nI (p.1 * 8 + p.2) - nI (p.1 * 8 + p.2) / nI 8 * nI 8 = _
          rw [pk_rem (by omega) (by omega) (by omega), show (p.1 * 8 + p.2) % 8 = p.2 by omega]
        have e3 : (0 : Int32) ≤ eX2 (some p) := nI_pos' (by omega)
        have hne : ¬ eMa (some p) = -9 := by
          show ¬ nI p.1 = -9
          rw [fa_eq, nI_toInt (by omega), show (-9 : Int32).toInt = -9 by decide]
          omega
        rw [e1] at e2
        rw [if_pos e3, if_neg (by decide), if_neg (by decide), e1, e2]
        unfold f10_sack_b140 f10_sack_b160
        rcases (show k = 0 ∨ k = 1 ∨ k = 2 by omega) with rfl | rfl | rfl
        · refine ⟨nI (pop p.1 + pop p.2), ?_, ?_⟩
          · rw [if_pos (show nI 0 = 0 from rfl), f_bitCount (by omega), bnp_ok, f_bitCount (by omega), bnp_ok, nI_add]
          · rw [if_pos (show nI 0 = 0 from rfl), if_neg hne, show eMa (some p) ||| eMb (some p) = nI (p.1 ||| p.2) from fa_or _ _, f_bitsIn (by omega) hN, bnp_ok, r1]
        · refine ⟨nI p.1, ?_, ?_⟩
          · rw [if_neg (show ¬ nI 1 = 0 by decide), if_pos (show nI 1 = 1 from rfl)]
          · rw [if_neg (show ¬ nI 1 = 0 by decide), if_neg (show ¬ nI 1 = 2 by decide)]
            rfl
        · refine ⟨nI p.2, ?_, ?_⟩
          · rw [if_neg (show ¬ nI 2 = 0 by decide), if_neg (show ¬ nI 2 = 1 by decide)]
          · rw [if_neg (show ¬ nI 2 = 0 by decide), if_pos (show nI 2 = 2 from rfl)]
            rfl
    · rw [← l0, ← l2] at hc
      refine ⟨-1, ?_, ?_⟩
      · simp (disch := omega) only [bnp_ok, bnd_ok, lt_ok, c0, c1, c2, c3, nI_clamp, nI_neg, nI_ltI, nI_leI, nI_eq, lt_t, lt_f, le_t, le_f, eq_t, eq_f, or_true, true_or, or_false, false_or, if_true, if_false, not_true, not_false_iff, z0, o0, o1, and_true, true_and, and_false, false_and, fX_btw, hb, hc]
      · simp (disch := omega) only [bnp_ok, bnd_ok, lt_ok, c0, c1, c2, c3, nI_clamp, nI_neg, nI_ltI, nI_leI, nI_eq, lt_t, lt_f, le_t, le_f, eq_t, eq_f, or_true, true_or, or_false, false_or, if_true, if_false, not_true, not_false_iff, z0, o0, o1, and_true, true_and, and_false, false_and, fM_btw, hb, hc]
  · rw [← l0, ← l27] at hb
    refine ⟨-1, ?_, ?_⟩
    · simp (disch := omega) only [bnp_ok, bnd_ok, lt_ok, c0, c1, c2, c3, nI_clamp, nI_neg, nI_ltI, nI_leI, nI_eq, lt_t, lt_f, le_t, le_f, eq_t, eq_f, or_true, true_or, or_false, false_or, if_true, if_false, not_true, not_false_iff, z0, o0, o1, and_true, true_and, and_false, false_and, fX_btw, hb]
    · simp (disch := omega) only [bnp_ok, bnd_ok, lt_ok, c0, c1, c2, c3, nI_clamp, nI_neg, nI_ltI, nI_leI, nI_eq, lt_t, lt_f, le_t, le_f, eq_t, eq_f, or_true, true_or, or_false, false_or, if_true, if_false, not_true, not_false_iff, z0, o0, o1, and_true, true_and, and_false, false_and, fM_btw, hb]
