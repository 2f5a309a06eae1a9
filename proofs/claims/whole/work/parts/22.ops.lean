/-! RULES OF CHANGE -/
theorem XTx_eq {n : Nat} {B : Nat → Nat} {S S' : Mem} (h : XTx n B S) (e1 : S' 1 = S 1) (e3 : S' 3 = S 3) : XTx n B S' := by unfold XTx; rw [e1, e3]; exact h
theorem XSc_eq {T : Nat} {W : Nat → Nat} {O F : Nat} {S S' : Mem} (h : XSc T W O F S) (e1 : S' 10 = S 10) (e3 : S' 12 = S 12) : XSc T W O F S' := by unfold XSc; rw [e1, e3]; exact h
theorem MTx_eq {n : Nat} {B : Nat → Nat} {S S' : Mem} (h : MTx n B S) (e1 : (S' 57).1 2 = (S 57).1 2) (e3 : S' 58 = S 58) : MTx n B S' := by unfold MTx; rw [e1, e3]; exact h
theorem MSc_eq {T : Nat} {W : Nat → Nat} {O F : Nat} {S S' : Mem} (h : MSc T W O F S) (e1 : S' 59 = S 59) (e2 : S' 60 = S 60) (e3 : S' 61 = S 61) : MSc T W O F S' := by unfold MSc; rw [e1, e2, e3]; exact h
theorem MBk_v {b : Bk} {S S' : Mem} {i : Nat} (h : MBk b S i) (h12 : b.1 ≤ 12) (h0 : (S' 62).1 i = (S 62).1 i) (h2 : ∀ j, 36 * i ≤ j → j < 36 * i + 36 → (S' 63).1 j = (S 63).1 j) : MBk b S' i := by
  refine ⟨by rw [h0]; exact h.1, fun k hk => ?_⟩
  obtain ⟨a1, a2, a3⟩ := h.2 k hk
  exact ⟨by rw [h2 _ (by omega) (by omega)]; exact a1, by rw [h2 _ (by omega) (by omega)]; exact a2, by rw [h2 _ (by omega) (by omega)]; exact a3⟩
theorem MIm_v {k : Bool} {b : Bk} {S S' : Mem} {i : Nat} (h : MIm k b S i) (h12 : k = true → b.1 ≤ 12) (h0 : (S' 62).1 (i + 1) = (S 62).1 (i + 1)) (h2 : ∀ j, 36 * (i + 1) ≤ j → j < 36 * (i + 1) + 36 → (S' 63).1 j = (S 63).1 j) (h4 : (S' 64).1 i = (S 64).1 i) : MIm k b S' i :=
  ⟨by rw [h4]; exact h.1, fun hk => MBk_v (h.2 hk) (h12 hk) h0 h2⟩
theorem XA_tx {a : Ab} {S S' : Mem} {n : Nat} {B : Nat → Nat} (h : XA a S) (hn : XTx n B S') (he : ∀ q, q ∈ XL → q ≠ 1 → q ≠ 3 → S' q = S q) : XA ((n, B), a.2) S' := by
  obtain ⟨h1, h2, h3, h4, h5, h6⟩ := h
  have f := fun q (h1 : q ∈ XL) (h2 : q ≠ 1 ∧ q ≠ 3) => he q h1 h2.1 h2.2
  exact ⟨hn, XSc_eq h2 (f 10 (by decide) (by decide)) (f 12 (by decide) (by decide)), XBk_eq h3 (f 15 (by decide) (by decide)) (f 17 (by decide) (by decide)) (f 19 (by decide) (by decide)) (f 21 (by decide) (by decide)), XIm_eq h4 (f 22 (by decide) (by decide)) (f 23 (by decide) (by decide)) (f 25 (by decide) (by decide)) (f 27 (by decide) (by decide)) (f 29 (by decide) (by decide)), XIm_eq h5 (f 30 (by decide) (by decide)) (f 31 (by decide) (by decide)) (f 33 (by decide) (by decide)) (f 35 (by decide) (by decide)) (f 37 (by decide) (by decide)), by rw [f 38 (by decide) (by decide)]; exact h6⟩
theorem XA_bk {a : Ab} {S S' : Mem} {b : Bk} (h : XA a S) (hn : XBk b S' 15) (he : ∀ q, q ∈ XL → q ∉ [15, 17, 19, 21] → S' q = S q) : XA (a.1, a.2.1, b, a.2.2.2) S' := by
  obtain ⟨h1, h2, h3, h4, h5, h6⟩ := h
  have f := he
  exact ⟨XTx_eq h1 (f 1 (by decide) (by decide)) (f 3 (by decide) (by decide)), XSc_eq h2 (f 10 (by decide) (by decide)) (f 12 (by decide) (by decide)), hn, XIm_eq h4 (f 22 (by decide) (by decide)) (f 23 (by decide) (by decide)) (f 25 (by decide) (by decide)) (f 27 (by decide) (by decide)) (f 29 (by decide) (by decide)), XIm_eq h5 (f 30 (by decide) (by decide)) (f 31 (by decide) (by decide)) (f 33 (by decide) (by decide)) (f 35 (by decide) (by decide)) (f 37 (by decide) (by decide)), by rw [f 38 (by decide) (by decide)]; exact h6⟩
theorem XA_i0 {a : Ab} {S S' : Mem} {k : Bool} {b : Bk} (h : XA a S) (hn : XIm k b S' 22) (he : ∀ q, q ∈ XL → q ∉ [22, 23, 25, 27, 29] → S' q = S q) : XA (a.1, a.2.1, a.2.2.1, (k, b), a.2.2.2.2) S' := by
  obtain ⟨h1, h2, h3, h4, h5, h6⟩ := h
  have f := he
  exact ⟨XTx_eq h1 (f 1 (by decide) (by decide)) (f 3 (by decide) (by decide)), XSc_eq h2 (f 10 (by decide) (by decide)) (f 12 (by decide) (by decide)), XBk_eq h3 (f 15 (by decide) (by decide)) (f 17 (by decide) (by decide)) (f 19 (by decide) (by decide)) (f 21 (by decide) (by decide)), hn, XIm_eq h5 (f 30 (by decide) (by decide)) (f 31 (by decide) (by decide)) (f 33 (by decide) (by decide)) (f 35 (by decide) (by decide)) (f 37 (by decide) (by decide)), by rw [f 38 (by decide) (by decide)]; exact h6⟩
theorem XA_i1 {a : Ab} {S S' : Mem} {k : Bool} {b : Bk} (h : XA a S) (hn : XIm k b S' 30) (he : ∀ q, q ∈ XL → q ∉ [30, 31, 33, 35, 37] → S' q = S q) : XA (a.1, a.2.1, a.2.2.1, a.2.2.2.1, (k, b), a.2.2.2.2.2) S' := by
  obtain ⟨h1, h2, h3, h4, h5, h6⟩ := h
  have f := he
  exact ⟨XTx_eq h1 (f 1 (by decide) (by decide)) (f 3 (by decide) (by decide)), XSc_eq h2 (f 10 (by decide) (by decide)) (f 12 (by decide) (by decide)), XBk_eq h3 (f 15 (by decide) (by decide)) (f 17 (by decide) (by decide)) (f 19 (by decide) (by decide)) (f 21 (by decide) (by decide)), XIm_eq h4 (f 22 (by decide) (by decide)) (f 23 (by decide) (by decide)) (f 25 (by decide) (by decide)) (f 27 (by decide) (by decide)) (f 29 (by decide) (by decide)), hn, by rw [f 38 (by decide) (by decide)]; exact h6⟩
theorem XA_tr {a : Ab} {S S' : Mem} {t : Int64} (h : XA a S) (hn : (S' 38).2 = t) (he : ∀ q, q ∈ XL → q ≠ 38 → S' q = S q) : XA (a.1, a.2.1, a.2.2.1, a.2.2.2.1, a.2.2.2.2.1, t) S' := by
  obtain ⟨h1, h2, h3, h4, h5, h6⟩ := h
  have f := he
  exact ⟨XTx_eq h1 (f 1 (by decide) (by decide)) (f 3 (by decide) (by decide)), XSc_eq h2 (f 10 (by decide) (by decide)) (f 12 (by decide) (by decide)), XBk_eq h3 (f 15 (by decide) (by decide)) (f 17 (by decide) (by decide)) (f 19 (by decide) (by decide)) (f 21 (by decide) (by decide)), XIm_eq h4 (f 22 (by decide) (by decide)) (f 23 (by decide) (by decide)) (f 25 (by decide) (by decide)) (f 27 (by decide) (by decide)) (f 29 (by decide) (by decide)), XIm_eq h5 (f 30 (by decide) (by decide)) (f 31 (by decide) (by decide)) (f 33 (by decide) (by decide)) (f 35 (by decide) (by decide)) (f 37 (by decide) (by decide)), hn⟩
theorem MA_tx {a : Ab} {S S' : Mem} {n : Nat} {B : Nat → Nat} (h : MA a S) (hn : MTx n B S') (ht : (S' 57).2 = (S 57).2) (he : ∀ q, q ∈ ML → q ≠ 58 → S' q = S q) : MA ((n, B), a.2) S' := by
  obtain ⟨h1, h2, h3, h4, h5, h6⟩ := h
  have f := he
  exact ⟨hn, MSc_eq h2 (f 59 (by decide) (by decide)) (f 60 (by decide) (by decide)) (f 61 (by decide) (by decide)), MBk_eq h3 (f 62 (by decide) (by decide)) (f 63 (by decide) (by decide)), MIm_eq h4 (f 62 (by decide) (by decide)) (f 63 (by decide) (by decide)) (f 64 (by decide) (by decide)), MIm_eq h5 (f 62 (by decide) (by decide)) (f 63 (by decide) (by decide)) (f 64 (by decide) (by decide)), by rw [ht]; exact h6⟩
theorem MA_tr {a : Ab} {S S' : Mem} {t : Int64} (h : MA a S) (hn : (S' 57).2 = t) (ht : (S' 57).1 2 = (S 57).1 2) (he : ∀ q, q ∈ ML → S' q = S q) : MA (a.1, a.2.1, a.2.2.1, a.2.2.2.1, a.2.2.2.2.1, t) S' := by
  obtain ⟨h1, h2, h3, h4, h5, h6⟩ := h
  have f := he
  exact ⟨MTx_eq h1 ht (f 58 (by decide)), MSc_eq h2 (f 59 (by decide)) (f 60 (by decide)) (f 61 (by decide)), MBk_eq h3 (f 62 (by decide)) (f 63 (by decide)), MIm_eq h4 (f 62 (by decide)) (f 63 (by decide)) (f 64 (by decide)), MIm_eq h5 (f 62 (by decide)) (f 63 (by decide)) (f 64 (by decide)), hn⟩
theorem MA_bk {a : Ab} {S S' : Mem} {b : Bk} (hG : GA a) (h : MA a S) (hn : MBk b S' 0) (h57 : S' 57 = S 57) (he : ∀ q, q ∈ ML → q ≠ 62 → q ≠ 63 → S' q = S q) (h62 : ∀ i, 1 ≤ i → (S' 62).1 i = (S 62).1 i) (h63 : ∀ i, 36 ≤ i → (S' 63).1 i = (S 63).1 i) : MA (a.1, a.2.1, b, a.2.2.2) S' := by
  obtain ⟨h1, h2, h3, h4, h5, h6⟩ := h
  obtain ⟨-, -, -, g4, g5⟩ := hG
  have f := fun q (h1 : q ∈ ML) (h2 : q ≠ 62 ∧ q ≠ 63) => he q h1 h2.1 h2.2
  have e64 := f 64 (by decide) (by decide)
  exact ⟨MTx_eq h1 (by rw [h57]) (f 58 (by decide) (by decide)), MSc_eq h2 (f 59 (by decide) (by decide)) (f 60 (by decide) (by decide)) (f 61 (by decide) (by decide)), hn, MIm_v h4 (fun hk => (g4 hk).1) (h62 _ (by decide)) (fun j hj _ => h63 j (by omega)) (by rw [e64]), MIm_v h5 (fun hk => (g5 hk).1) (h62 _ (by decide)) (fun j hj _ => h63 j (by omega)) (by rw [e64]), by rw [h57]; exact h6⟩
def CL : List Nat := [39, 41, 43, 45, 47, 49]
/-- what a step leaves: the pictures, and the cache as it was or forgotten -/
def Nxt (a a' : Ab) (S S' : Mem) : Prop := GA a' ∧ XA a' S' ∧ MA a' S' ∧ ((S' 39).1 7 = 0 ∨ (a'.2.1 = a.2.1 ∧ a'.2.2.1 = a.2.2.1 ∧ ∀ q, q ∈ CL → S' q = S q))
theorem op_clear {a : Ab} {S : Mem} {N : Nat} (hG : GA a) (hX : XA a S) (hM : MA a S) : ∃ r S1 S2 a', f9_clear N S = some (r, S1) ∧ f10_clear N S1 = some (r, S2) ∧ Nxt a a' S S2 := by
  have x1 := hX.1.1
  have m1 := hM.1.1
  refine ⟨nI a.1.1, wr S 1 1 0, wr (wr S 1 1 0) 57 2 0, ((0, a.1.2), a.2), ?_, ?_, ⟨⟨Nat.zero_le _, fun j hj => absurd hj (Nat.not_lt_zero j)⟩, hG.2⟩, ?_, ?_, Or.inr ⟨rfl, rfl, ?_⟩⟩
  · unfold f9_clear f7_length f7_wipe
    simp (disch := omega) only [bnp_ok, bnd_ok, lt_ok, c0, c1, c2, c3, nI_clamp, nI_neg, nI_ltI, nI_leI, nI_eq, lt_t, lt_f, le_t, le_f, eq_t, eq_f, or_true, true_or, or_false, false_or, if_true, if_false, not_true, not_false_iff, z0, o0, o1, and_true, true_and, and_false, false_and, x1]
  · unfold f10_clear
    simp (disch := omega) only [bnp_ok, bnd_ok, lt_ok, c0, c1, c2, c3, nI_clamp, nI_neg, nI_ltI, nI_leI, nI_eq, lt_t, lt_f, le_t, le_f, eq_t, eq_f, or_true, true_or, or_false, false_or, if_true, if_false, not_true, not_false_iff, z0, o0, o1, and_true, true_and, and_false, false_and, wr_ap, m1]
  · refine XA_tx hX ⟨?_, fun j hj => absurd hj (Nat.not_lt_zero j)⟩ (fun q hq h1 h3 => ?_)
    · simp (disch := omega) only [bnp_ok, bnd_ok, lt_ok, c0, c1, c2, c3, nI_clamp, nI_neg, nI_ltI, nI_leI, nI_eq, lt_t, lt_f, le_t, le_f, eq_t, eq_f, or_true, true_or, or_false, false_or, if_true, if_false, not_true, not_false_iff, z0, o0, o1, and_true, true_and, and_false, false_and, wr_ap, upd_ap, l0]
    · have h57 : q ≠ 57 := by revert q; decide
      simp (disch := omega) only [bnp_ok, bnd_ok, lt_ok, c0, c1, c2, c3, nI_clamp, nI_neg, nI_ltI, nI_leI, nI_eq, lt_t, lt_f, le_t, le_f, eq_t, eq_f, or_true, true_or, or_false, false_or, if_true, if_false, not_true, not_false_iff, z0, o0, o1, and_true, true_and, and_false, false_and, wr_ap, h1, h57]
  · refine MA_tx hM ⟨?_, fun j hj => absurd hj (Nat.not_lt_zero j)⟩ ?_ (fun q hq h1 => ?_)
    · simp (disch := omega) only [bnp_ok, bnd_ok, lt_ok, c0, c1, c2, c3, nI_clamp, nI_neg, nI_ltI, nI_leI, nI_eq, lt_t, lt_f, le_t, le_f, eq_t, eq_f, or_true, true_or, or_false, false_or, if_true, if_false, not_true, not_false_iff, z0, o0, o1, and_true, true_and, and_false, false_and, wr_ap, upd_ap, l0]
    · simp (disch := omega) only [bnp_ok, bnd_ok, lt_ok, c0, c1, c2, c3, nI_clamp, nI_neg, nI_ltI, nI_leI, nI_eq, lt_t, lt_f, le_t, le_f, eq_t, eq_f, or_true, true_or, or_false, false_or, if_true, if_false, not_true, not_false_iff, z0, o0, o1, and_true, true_and, and_false, false_and, wr_ap]
    · have h57 : q ≠ 57 ∧ q ≠ 1 := by revert q; decide
      simp (disch := omega) only [bnp_ok, bnd_ok, lt_ok, c0, c1, c2, c3, nI_clamp, nI_neg, nI_ltI, nI_leI, nI_eq, lt_t, lt_f, le_t, le_f, eq_t, eq_f, or_true, true_or, or_false, false_or, if_true, if_false, not_true, not_false_iff, z0, o0, o1, and_true, true_and, and_false, false_and, wr_ap, h1, h57.1, h57.2]
  · intro q hq
    have h57 : q ≠ 57 ∧ q ≠ 1 := by revert q; decide
    simp (disch := omega) only [bnp_ok, bnd_ok, lt_ok, c0, c1, c2, c3, nI_clamp, nI_neg, nI_ltI, nI_leI, nI_eq, lt_t, lt_f, le_t, le_f, eq_t, eq_f, or_true, true_or, or_false, false_or, if_true, if_false, not_true, not_false_iff, z0, o0, o1, and_true, true_and, and_false, false_and, wr_ap, h57.1, h57.2]
