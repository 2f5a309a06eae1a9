/-! WHAT A MEMORY STANDS FOR: things and a scale, a text, a book, images, the trace -/
abbrev Bk : Type := Nat × (Nat → Nat × Nat × Nat)
def XSc (T : Nat) (W : Nat → Nat) (O F : Nat) (S : Mem) : Prop := (S 10).1 2 = nI T ∧ (∀ i, i < T → (S 12).1 i = nI (W i)) ∧ (S 10).1 3 = nI O ∧ (S 10).1 4 = nI F
def MSc (T : Nat) (W : Nat → Nat) (O F : Nat) (S : Mem) : Prop := (S 59).1 0 = nI T ∧ (∀ i, i < T → (S 60).1 i = nI (W i)) ∧ (S 60).1 3 = nI O ∧ (S 61).1 0 = nI F
def GSc (T : Nat) (W : Nat → Nat) (O F : Nat) : Prop := T ≤ 3 ∧ (∀ i, i < T → 1 ≤ W i ∧ W i ≤ 9) ∧ O ≤ 9 ∧ 2 ≤ F ∧ F ≤ 20
def XTx (n : Nat) (B : Nat → Nat) (S : Mem) : Prop := (S 1).1 1 = nI n ∧ ∀ j, j < n → (S 3).1 j = nI (B j)
def MTx (n : Nat) (B : Nat → Nat) (S : Mem) : Prop := (S 57).1 2 = nI n ∧ ∀ j, j < n → (S 58).1 j = (nI (B j)).toInt8.toInt32
def GTx (n : Nat) (B : Nat → Nat) : Prop := n ≤ 200 ∧ ∀ j, j < n → B j < 256
def XBk (b : Bk) (S : Mem) (q : Nat) : Prop := (S q).1 3 = nI b.1 ∧ ∀ k, k < b.1 → (S (q + 2)).1 k = nI (b.2 k).1 ∧ (S (q + 4)).1 k = nI (b.2 k).2.1 ∧ (S (q + 6)).1 k = nI (b.2 k).2.2
def MBk (b : Bk) (S : Mem) (i : Nat) : Prop := (S 62).1 i = nI b.1 ∧ ∀ k, k < b.1 → (S 63).1 (36 * i + 3 * k) = nI (b.2 k).1 ∧ (S 63).1 (36 * i + (3 * k + 1)) = nI (b.2 k).2.1 ∧ (S 63).1 (36 * i + (3 * k + 2)) = nI (b.2 k).2.2
def GBk (T F : Nat) (b : Bk) : Prop := b.1 ≤ 12 ∧ ∀ k, k < b.1 → (b.2 k).1 < 2 ^ T ∧ (b.2 k).2.1 < F ∧ (b.2 k).2.2 ≤ 2
def bI (k : Bool) : Int32 := if k = true then 1 else 0
def XIm (k : Bool) (b : Bk) (S : Mem) (q : Nat) : Prop := (S q).1 1 = bI k ∧ (k = true → XBk b S (q + 1))
def MIm (k : Bool) (b : Bk) (S : Mem) (i : Nat) : Prop := (S 64).1 i = bI k ∧ (k = true → MBk b S (i + 1))
def GIm (T F : Nat) (k : Bool) (b : Bk) : Prop := k = true → GBk T F b
abbrev Ab : Type := (Nat × (Nat → Nat)) × (Nat × (Nat → Nat) × Nat × Nat) × Bk × (Bool × Bk) × (Bool × Bk) × Int64
def GA (a : Ab) : Prop := GTx a.1.1 a.1.2 ∧ GSc a.2.1.1 a.2.1.2.1 a.2.1.2.2.1 a.2.1.2.2.2 ∧ GBk a.2.1.1 a.2.1.2.2.2 a.2.2.1 ∧ GIm a.2.1.1 a.2.1.2.2.2 a.2.2.2.1.1 a.2.2.2.1.2 ∧ GIm a.2.1.1 a.2.1.2.2.2 a.2.2.2.2.1.1 a.2.2.2.2.1.2
/-- the class's memory but for its cache -/
def XA (a : Ab) (S : Mem) : Prop := XTx a.1.1 a.1.2 S ∧ XSc a.2.1.1 a.2.1.2.1 a.2.1.2.2.1 a.2.1.2.2.2 S ∧ XBk a.2.2.1 S 15 ∧ XIm a.2.2.2.1.1 a.2.2.2.1.2 S 22 ∧ XIm a.2.2.2.2.1.1 a.2.2.2.2.1.2 S 30 ∧ (S 38).2 = a.2.2.2.2.2
def MA (a : Ab) (S : Mem) : Prop := MTx a.1.1 a.1.2 S ∧ MSc a.2.1.1 a.2.1.2.1 a.2.1.2.2.1 a.2.1.2.2.2 S ∧ MBk a.2.2.1 S 0 ∧ MIm a.2.2.2.1.1 a.2.2.2.1.2 S 0 ∧ MIm a.2.2.2.2.1.1 a.2.2.2.2.1.2 S 1 ∧ (S 57).2 = a.2.2.2.2.2
theorem XBk_eq {b : Bk} {S S' : Mem} {q : Nat} (h : XBk b S q) (h0 : S' q = S q) (h2 : S' (q + 2) = S (q + 2)) (h4 : S' (q + 4) = S (q + 4)) (h6 : S' (q + 6) = S (q + 6)) : XBk b S' q := by
  unfold XBk at h ⊢
  rw [h0, h2, h4, h6]
  exact h
theorem XIm_eq {k : Bool} {b : Bk} {S S' : Mem} {q : Nat} (h : XIm k b S q) (h0 : S' q = S q) (h1 : S' (q + 1) = S (q + 1)) (h2 : S' (q + 3) = S (q + 3)) (h4 : S' (q + 5) = S (q + 5)) (h6 : S' (q + 7) = S (q + 7)) : XIm k b S' q := ⟨by rw [h0]; exact h.1, fun hk => XBk_eq (h.2 hk) h1 h2 h4 h6⟩
/-- the cells that say what the class's memory stands for -/
def XL : List Nat := [1, 3, 10, 12, 15, 17, 19, 21, 22, 23, 25, 27, 29, 30, 31, 33, 35, 37, 38]
theorem XA_eq {a : Ab} {S S' : Mem} (h : XA a S) (he : ∀ q, q ∈ XL → S' q = S q) : XA a S' := by
  obtain ⟨h1, h2, h3, h4, h5, h6⟩ := h
  have e1 := he 1 (by decide)
  have e3 := he 3 (by decide)
  have e10 := he 10 (by decide)
  have e12 := he 12 (by decide)
  refine ⟨by unfold XTx; rw [e1, e3]; exact h1, by unfold XSc; rw [e10, e12]; exact h2, XBk_eq h3 (he 15 (by decide)) (he 17 (by decide)) (he 19 (by decide)) (he 21 (by decide)), XIm_eq h4 (he 22 (by decide)) (he 23 (by decide)) (he 25 (by decide)) (he 27 (by decide)) (he 29 (by decide)), XIm_eq h5 (he 30 (by decide)) (he 31 (by decide)) (he 33 (by decide)) (he 35 (by decide)) (he 37 (by decide)), by rw [he 38 (by decide)]; exact h6⟩
theorem MBk_eq {b : Bk} {S S' : Mem} {i : Nat} (h : MBk b S i) (h0 : S' 62 = S 62) (h2 : S' 63 = S 63) : MBk b S' i := by
  unfold MBk at h ⊢
  rw [h0, h2]
  exact h
theorem MIm_eq {k : Bool} {b : Bk} {S S' : Mem} {i : Nat} (h : MIm k b S i) (h0 : S' 62 = S 62) (h2 : S' 63 = S 63) (h4 : S' 64 = S 64) : MIm k b S' i := ⟨by rw [h4]; exact h.1, fun hk => MBk_eq (h.2 hk) h0 h2⟩
def ML : List Nat := [58, 59, 60, 61, 62, 63, 64]
theorem MA_eq {a : Ab} {S S' : Mem} (h : MA a S) (h57 : (S' 57).1 2 = (S 57).1 2 ∧ (S' 57).2 = (S 57).2) (he : ∀ q, q ∈ ML → S' q = S q) : MA a S' := by
  obtain ⟨h1, h2, h3, h4, h5, h6⟩ := h
  have e58 := he 58 (by decide)
  have e59 := he 59 (by decide)
  have e60 := he 60 (by decide)
  have e61 := he 61 (by decide)
  have e62 := he 62 (by decide)
  have e63 := he 63 (by decide)
  have e64 := he 64 (by decide)
  refine ⟨by unfold MTx; rw [h57.1, e58]; exact h1, by unfold MSc; rw [e59, e60, e61]; exact h2, MBk_eq h3 e62 e63, MIm_eq h4 e62 e63 e64, MIm_eq h5 e62 e63 e64, by rw [h57.2]; exact h6⟩
theorem MA_keep {a : Ab} {S S' : Mem} (h : MA a S) (he : ∀ q, 57 ≤ q → S' q = S q) : MA a S' := MA_eq h (by rw [he 57 (by decide)]; exact ⟨rfl, rfl⟩) (fun q hq => he q (by revert q; decide))
theorem XA_keep {a : Ab} {S S' : Mem} (h : XA a S) (he : ∀ q, q < 57 → S' q = S q) : XA a S' := XA_eq h (fun q hq => he q (by revert q; decide))
theorem ne_nI {a b : Nat} (ha : a < 2 ^ 31) (hb : b < 2 ^ 31) (h : a ≠ b) : ¬ nI a = nI b := fun e => h ((nI_eq ha hb).mp e)
theorem bI_01 (k : Bool) : (bI k = 0 ∨ bI k = 1) = True := by cases k <;> decide
theorem n3_3 : ((3 : Int32) < 0) = False := by decide
/-- trace, count -/
theorem op_trace {a : Ab} {S : Mem} {N : Nat} (hX : XA a S) (hM : MA a S) : f9_trace N S = some a.2.2.2.2.2 ∧ f10_trace N S = some a.2.2.2.2.2 := by
  refine ⟨?_, ?_⟩
  · unfold f9_trace f2_asked
    rw [bnp_ok, hX.2.2.2.2.2]
  · unfold f10_trace
    rw [hM.2.2.2.2.2]
theorem op_count {a : Ab} {S : Mem} {N : Nat} (hX : XA a S) (hM : MA a S) (i : Int32) : ∃ r, f9_count N i S = some r ∧ f10_count N i S = some r := by
  obtain ⟨⟨x1, -⟩, ⟨x2, -, -, x4⟩, ⟨x5, -⟩, -⟩ := hX
  obtain ⟨⟨m1, -⟩, ⟨m2, -, -, m4⟩, ⟨m5, -⟩, -⟩ := hM
  unfold f9_count f10_count f6_things_10 f6_figures_10 f0_lines_15 f7_length
  simp (disch := omega) only [bnp_ok, bnd_ok, lt_ok, c0, c1, c2, c3, nI_clamp, nI_neg, nI_ltI, nI_leI, nI_eq, lt_t, lt_f, le_t, le_f, eq_t, eq_f, or_true, true_or, or_false, false_or, if_true, if_false, not_true, not_false_iff, z0, o0, o1, and_true, true_and, and_false, false_and, x1, x2, x4, x5, m1, m2, m4, m5]
  by_cases h0 : i = 0
  · simp only [h0, if_true]; exact ⟨_, rfl, rfl⟩
  · by_cases h1 : i = 1
    · simp only [h0, h1, if_true, if_false]; exact ⟨_, rfl, rfl⟩
    · by_cases h2 : i = 2
      · simp only [h0, h1, h2, if_true, if_false]; exact ⟨_, rfl, rfl⟩
      · by_cases h3 : i = 3
        · simp only [h0, h1, h2, h3, if_true, if_false]; exact ⟨_, rfl, rfl⟩
        · simp only [h0, h1, h2, h3, if_true, if_false]; exact ⟨_, rfl, rfl⟩
theorem op_thing {a : Ab} {S : Mem} {N : Nat} (hG : GA a) (hX : XA a S) (hM : MA a S) (i : Int32) : ∃ r, f9_thing N i S = some r ∧ f10_thing N i S = some r := by
  obtain ⟨-, ⟨hT, -⟩, -⟩ := hG
  obtain ⟨-, ⟨x1, x2, x3, x4⟩, -⟩ := hX
  obtain ⟨-, ⟨m1, m2, m3, m4⟩, -⟩ := hM
  rcases btw_cnt (i := i) (T := a.2.1.1) (by omega) with ⟨j, hj, rfl, hb⟩ | ⟨hne, hb⟩
  · have h3 : ¬ nI j = 3 := ne_nI (b := 3) (by omega) (by decide) (by omega)
    have hx := x2 j hj
    have hm := m2 j hj
    refine ⟨nI (a.2.1.2.1 j), ?_, ?_⟩
    · unfold f9_thing f9_isItem f9_isItem_b22 f6_things_10 f6_weightOf_10
      simp (disch := omega) only [bnp_ok, bnd_ok, lt_ok, c0, c1, c2, c3, nI_clamp, nI_neg, nI_ltI, nI_leI, nI_eq, lt_t, lt_f, le_t, le_f, eq_t, eq_f, or_true, true_or, or_false, false_or, if_true, if_false, not_true, not_false_iff, z0, o0, o1, and_true, true_and, and_false, false_and, x1, fX_btw, hb, h3, f5_get_in, hx]
    · unfold f10_thing f10_isThing f10_thing_b13
      simp (disch := omega) only [bnp_ok, bnd_ok, lt_ok, c0, c1, c2, c3, nI_clamp, nI_neg, nI_ltI, nI_leI, nI_eq, lt_t, lt_f, le_t, le_f, eq_t, eq_f, or_true, true_or, or_false, false_or, if_true, if_false, not_true, not_false_iff, z0, o0, o1, and_true, true_and, and_false, false_and, m1, fM_btw, hb, hm]
  · by_cases h3 : i = 3
    · subst h3
      refine ⟨nI a.2.1.2.2.1, ?_, ?_⟩
      · unfold f9_thing f9_isItem f9_isItem_b22 f6_weightOf_10
        simp (disch := omega) only [bnp_ok, bnd_ok, lt_ok, c0, c1, c2, c3, nI_clamp, nI_neg, nI_ltI, nI_leI, nI_eq, lt_t, lt_f, le_t, le_f, eq_t, eq_f, or_true, true_or, or_false, false_or, if_true, if_false, not_true, not_false_iff, z0, o0, o1, and_true, true_and, and_false, false_and, x3]
      · unfold f10_thing f10_isThing f10_thing_b13
        simp (disch := omega) only [bnp_ok, bnd_ok, lt_ok, c0, c1, c2, c3, nI_clamp, nI_neg, nI_ltI, nI_leI, nI_eq, lt_t, lt_f, le_t, le_f, eq_t, eq_f, or_true, true_or, or_false, false_or, if_true, if_false, not_true, not_false_iff, z0, o0, o1, and_true, true_and, and_false, false_and, m1, m3, fM_btw, hb, n3_3]
    · refine ⟨-1, ?_, ?_⟩
      · unfold f9_thing f9_isItem f9_isItem_b22 f6_things_10
        simp (disch := omega) only [bnp_ok, bnd_ok, lt_ok, c0, c1, c2, c3, nI_clamp, nI_neg, nI_ltI, nI_leI, nI_eq, lt_t, lt_f, le_t, le_f, eq_t, eq_f, or_true, true_or, or_false, false_or, if_true, if_false, not_true, not_false_iff, z0, o0, o1, and_true, true_and, and_false, false_and, x1, fX_btw, hb, h3]
      · unfold f10_thing f10_isThing
        simp (disch := omega) only [bnp_ok, bnd_ok, lt_ok, c0, c1, c2, c3, nI_clamp, nI_neg, nI_ltI, nI_leI, nI_eq, lt_t, lt_f, le_t, le_f, eq_t, eq_f, or_true, true_or, or_false, false_or, if_true, if_false, not_true, not_false_iff, z0, o0, o1, and_true, true_and, and_false, false_and, m1, fM_btw, hb, h3]
