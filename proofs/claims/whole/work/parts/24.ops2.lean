theorem op_weigh {a : Ab} {S : Mem} {N : Nat} (hN : 3 < N) (hG : GA a) (hX : XA a S) (hM : MA a S) (s l h : Int32) : ∃ r S1 S2 a', f9_weigh N s l h S = some (r, S1) ∧ f10_weigh N s l h S1 = some (r, S2) ∧ Nxt a a' S S2 := by
  have hT := hG.2.1.1
  have hO := hG.2.1.2.2.1
  have hF := hG.2.1.2.2.2
  have hL := hG.2.2.1.1
  have p3 := pow3 hT
  have x2 := hX.2.2.1.1
  have xO := hX.2.1.2.2.1
  have m2 := hM.2.2.1.1
  have mF := hM.2.1.2.2.2
  unfold f9_weigh f10_weigh f0_isFull_15 f6_own_10
  rcases btw_cnt (i := s) (T := 2 ^ a.2.1.1) (by omega) with ⟨s, hs, rfl, hb⟩ | ⟨-, hb⟩
  · rcases btw_lit (i := l) (a := 0) (b := 1) (by decide) (by decide) with ⟨l, -, hl, rfl, hc⟩ | ⟨-, hc⟩
    · rcases btw_lit (i := h) (a := 0) (b := 1) (by decide) (by decide) with ⟨h, -, hh, rfl, hd⟩ | ⟨-, hd⟩
      · rw [← l0, ← l1] at hc hd
        by_cases hb12 : a.2.2.1.1 = 12
        · refine ⟨-3, S, S, a, ?_, ?_, Nxt_refl hG hX hM rfl⟩
          · have hlt : ¬ nI a.2.2.1.1 < (12 : Int32) := nI_nlt (b := 12) (by omega) (by omega)
            simp (disch := omega) only [bnp_ok, bnd_ok, lt_ok, c0, c1, c2, c3, nI_clamp, nI_neg, nI_ltI, nI_leI, nI_eq, lt_t, lt_f, le_t, le_f, eq_t, eq_f, or_true, true_or, or_false, false_or, if_true, if_false, not_true, not_false_iff, z0, o0, o1, and_true, true_and, and_false, false_and, X_isSet hX.2.1 hT, hb, fX_btw, hc, hd, x2, if_neg hlt]
          · have he : nI a.2.2.1.1 = (12 : Int32) := by rw [hb12]; rfl
            simp (disch := omega) only [bnp_ok, bnd_ok, lt_ok, c0, c1, c2, c3, nI_clamp, nI_neg, nI_ltI, nI_leI, nI_eq, lt_t, lt_f, le_t, le_f, eq_t, eq_f, or_true, true_or, or_false, false_or, if_true, if_false, not_true, not_false_iff, z0, o0, o1, and_true, true_and, and_false, false_and, M_isSet hM.2.1 hT, hb, fM_btw, hc, hd, m2, he]
        · have hlt : nI a.2.2.1.1 < (12 : Int32) := nI_lt (b := 12) (by omega) (by decide)
          have hne : ¬ nI a.2.2.1.1 = (12 : Int32) := ne_nI (b := 12) (by omega) (by decide) hb12
          have hs8 := sx_lt hT hs
          have hw := ldw_le (W := a.2.1.2.1) (s := s) (T := a.2.1.1) (c := 9) (fun i hi => (hG.2.1.2.1 i hi).2)
          have hw2 : ldw a.2.1.2.1 s a.2.1.1 ≤ 27 := by omega
          have hFp : 0 < a.2.1.2.2.2 := by omega
          have hm := Nat.mod_lt (ldw a.2.1.2.1 s a.2.1.1 + a.2.1.2.2.1 + l) hFp
          have hld := f6_loadOf_ok (N := N) (s := s) hX.2.1 hT (by omega) hN
          have hlo := f6_leftOver_ok (N := N) (m := ldw a.2.1.2.1 s a.2.1.1 + a.2.1.2.2.1 + l) hX.2.1 (by omega) (by omega)
          have hts : f10_trueSum N (nI s) = fun S' => f10_trueSum N (nI s) S' := rfl
          have e0 : ¬ nI a.2.1.2.2.2 = 0 := ne_nI (b := 0) (by omega) (by decide) (by omega)
          have er : nI (a.2.1.2.2.1 + ldw a.2.1.2.1 s a.2.1.1) + nI l - (nI (a.2.1.2.2.1 + ldw a.2.1.2.1 s a.2.1.1) + nI l) / nI a.2.1.2.2.2 * nI a.2.1.2.2.2 = nI ((ldw a.2.1.2.1 s a.2.1.1 + a.2.1.2.2.1 + l) % a.2.1.2.2.2) := by
            rw [nI_add, pk_rem (by omega) (by omega) (by omega), Nat.add_comm a.2.1.2.2.1]
          have hx1 : (nI h = 1) = (h = 1) := propext (nI_eq (b := 1) (by omega) (by decide))
          by_cases h1 : h = 1
          · subst h1
            have h1 : (nI 1 = (1 : Int32)) = True := eq_true rfl
            obtain ⟨S1, S2, k1, k2, k3, k4, k5, k6⟩ := add_both (N := N) (s := s) (w := (ldw a.2.1.2.1 s a.2.1.1 + a.2.1.2.2.1 + l) % a.2.1.2.2.2) (u := l) hG hX hM (by omega) hs hm (by omega)
            have e62 : (wr S1 39 7 0) 62 = S 62 := by rw [wr_ne _ _ _ _ (by decide), k6 62 (by decide)]
            have e61 : (wr S1 39 7 0) 61 = S 61 := by rw [wr_ne _ _ _ _ (by decide), k6 61 (by decide)]
            have hMk : MA a (wr S1 39 7 0) := MA_keep hM (fun q hq => by rw [wr_ne _ _ _ _ (by omega), k6 q hq])
            refine ⟨nI ((ldw a.2.1.2.1 s a.2.1.1 + a.2.1.2.2.1 + l) % a.2.1.2.2.2), wr S1 39 7 0, S2, _, ?_, ?_, k3⟩
            · unfold f9_weigh_b85
              simp (disch := omega) only [bnp_ok, bnd_ok, lt_ok, c0, c1, c2, c3, nI_clamp, nI_neg, nI_ltI, nI_leI, nI_eq, lt_t, lt_f, le_t, le_f, eq_t, eq_f, or_true, true_or, or_false, false_or, if_true, if_false, not_true, not_false_iff, z0, o0, o1, and_true, true_and, and_false, false_and, X_isSet hX.2.1 hT, hb, fX_btw, hc, hd, x2, if_pos hlt, hld, xO, nI_add, hlo, h1, k1, f8_forget_ok]
            · unfold f10_weigh_b72
              simp (disch := omega) only [bnp_ok, bnd_ok, lt_ok, c0, c1, c2, c3, nI_clamp, nI_neg, nI_ltI, nI_leI, nI_eq, lt_t, lt_f, le_t, le_f, eq_t, eq_f, or_true, true_or, or_false, false_or, if_true, if_false, not_true, not_false_iff, z0, o0, o1, and_true, true_and, and_false, false_and, M_isSet hMk.2.1 hT, hb, fM_btw, hc, hd, e62, m2, hne, f10_trueSum_ok hMk.2.1 hT (show s < 2 ^ 31 by omega) hN, e61, mF, e0, er, h1, k2]
          · obtain ⟨S1, S2, k1, k2, k3, k4, k5, k6⟩ := add_both (N := N) (s := s) (w := (ldw a.2.1.2.1 s a.2.1.1 + a.2.1.2.2.1 + l) % a.2.1.2.2.2) (u := 2) hG hX hM (by omega) hs hm (by omega)
            have e62 : (wr S1 39 7 0) 62 = S 62 := by rw [wr_ne _ _ _ _ (by decide), k6 62 (by decide)]
            have e61 : (wr S1 39 7 0) 61 = S 61 := by rw [wr_ne _ _ _ _ (by decide), k6 61 (by decide)]
            have hMk : MA a (wr S1 39 7 0) := MA_keep hM (fun q hq => by rw [wr_ne _ _ _ _ (by omega), k6 q hq])
            rw [← l2] at k1 k2
            refine ⟨nI ((ldw a.2.1.2.1 s a.2.1.1 + a.2.1.2.2.1 + l) % a.2.1.2.2.2), wr S1 39 7 0, S2, _, ?_, ?_, k3⟩
            · unfold f9_weigh_b85
              simp (disch := omega) only [bnp_ok, bnd_ok, lt_ok, c0, c1, c2, c3, nI_clamp, nI_neg, nI_ltI, nI_leI, nI_eq, lt_t, lt_f, le_t, le_f, eq_t, eq_f, or_true, true_or, or_false, false_or, if_true, if_false, not_true, not_false_iff, z0, o0, o1, and_true, true_and, and_false, false_and, X_isSet hX.2.1 hT, hb, fX_btw, hc, hd, x2, if_pos hlt, hld, xO, nI_add, hlo, hx1, h1, k1, f8_forget_ok]
            · unfold f10_weigh_b72
              simp (disch := omega) only [bnp_ok, bnd_ok, lt_ok, c0, c1, c2, c3, nI_clamp, nI_neg, nI_ltI, nI_leI, nI_eq, lt_t, lt_f, le_t, le_f, eq_t, eq_f, or_true, true_or, or_false, false_or, if_true, if_false, not_true, not_false_iff, z0, o0, o1, and_true, true_and, and_false, false_and, M_isSet hMk.2.1 hT, hb, fM_btw, hc, hd, e62, m2, hne, f10_trueSum_ok hMk.2.1 hT (show s < 2 ^ 31 by omega) hN, e61, mF, e0, er, hx1, h1, k2]
      · refine ⟨-1, S, S, a, ?_, ?_, Nxt_refl hG hX hM rfl⟩
        · rw [← l0, ← l1] at hc hd
          simp (disch := omega) only [bnp_ok, bnd_ok, lt_ok, c0, c1, c2, c3, nI_clamp, nI_neg, nI_ltI, nI_leI, nI_eq, lt_t, lt_f, le_t, le_f, eq_t, eq_f, or_true, true_or, or_false, false_or, if_true, if_false, not_true, not_false_iff, z0, o0, o1, and_true, true_and, and_false, false_and, X_isSet hX.2.1 hT, hb, fX_btw, hc, hd]
        · rw [← l0, ← l1] at hc hd
          simp (disch := omega) only [bnp_ok, bnd_ok, lt_ok, c0, c1, c2, c3, nI_clamp, nI_neg, nI_ltI, nI_leI, nI_eq, lt_t, lt_f, le_t, le_f, eq_t, eq_f, or_true, true_or, or_false, false_or, if_true, if_false, not_true, not_false_iff, z0, o0, o1, and_true, true_and, and_false, false_and, M_isSet hM.2.1 hT, hb, fM_btw, hc, hd]
    · refine ⟨-1, S, S, a, ?_, ?_, Nxt_refl hG hX hM rfl⟩
      · rw [← l0, ← l1] at hc
        simp (disch := omega) only [bnp_ok, bnd_ok, lt_ok, c0, c1, c2, c3, nI_clamp, nI_neg, nI_ltI, nI_leI, nI_eq, lt_t, lt_f, le_t, le_f, eq_t, eq_f, or_true, true_or, or_false, false_or, if_true, if_false, not_true, not_false_iff, z0, o0, o1, and_true, true_and, and_false, false_and, X_isSet hX.2.1 hT, hb, fX_btw, hc]
      · rw [← l0, ← l1] at hc
        simp (disch := omega) only [bnp_ok, bnd_ok, lt_ok, c0, c1, c2, c3, nI_clamp, nI_neg, nI_ltI, nI_leI, nI_eq, lt_t, lt_f, le_t, le_f, eq_t, eq_f, or_true, true_or, or_false, false_or, if_true, if_false, not_true, not_false_iff, z0, o0, o1, and_true, true_and, and_false, false_and, M_isSet hM.2.1 hT, hb, fM_btw, hc]
  · refine ⟨-1, S, S, a, ?_, ?_, Nxt_refl hG hX hM rfl⟩
    · simp (disch := omega) only [bnp_ok, bnd_ok, lt_ok, c0, c1, c2, c3, nI_clamp, nI_neg, nI_ltI, nI_leI, nI_eq, lt_t, lt_f, le_t, le_f, eq_t, eq_f, or_true, true_or, or_false, false_or, if_true, if_false, not_true, not_false_iff, z0, o0, o1, and_true, true_and, and_false, false_and, X_isSet hX.2.1 hT, hb]
    · simp (disch := omega) only [bnp_ok, bnd_ok, lt_ok, c0, c1, c2, c3, nI_clamp, nI_neg, nI_ltI, nI_leI, nI_eq, lt_t, lt_f, le_t, le_f, eq_t, eq_f, or_true, true_or, or_false, false_or, if_true, if_false, not_true, not_false_iff, z0, o0, o1, and_true, true_and, and_false, false_and, M_isSet hM.2.1 hT, hb]
theorem op_line {a : Ab} {S : Mem} {N : Nat} (hG : GA a) (hX : XA a S) (hM : MA a S) (k w : Int32) : ∃ r, f9_line N k w S = some r ∧ f10_line N k w S = some r := by
  have hL := hG.2.2.1.1
  unfold f9_line f10_line
  rcases btw_cnt (i := k) (T := a.2.2.1.1) (by omega) with ⟨k, hk, rfl, hb⟩ | ⟨-, hb⟩
  · obtain ⟨x1, x2, x3⟩ := hX.2.2.1.2 k hk
    obtain ⟨m1, m2, m3⟩ := hM.2.2.1.2 k hk
    simp only [Nat.mul_zero, Nat.zero_add] at m1 m2 m3
    unfold f0_setOf_15 f0_shownOf_15 f0_laughOf_15
    rcases btw_lit (i := w) (a := 0) (b := 2) (by decide) (by decide) with ⟨w, -, hw, rfl, hc⟩ | ⟨hne, hc⟩
    · rw [← l0, ← l2] at hc
      rcases (show w = 0 ∨ w = 1 ∨ w = 2 by omega) with rfl | rfl | rfl
      · refine ⟨nI (a.2.2.1.2 k).1, ?_, ?_⟩
        · simp (disch := omega) only [bnp_ok, bnd_ok, lt_ok, c0, c1, c2, c3, nI_clamp, nI_neg, nI_ltI, nI_leI, nI_eq, lt_t, lt_f, le_t, le_f, eq_t, eq_f, or_true, true_or, or_false, false_or, if_true, if_false, not_true, not_false_iff, z0, o0, o1, and_true, true_and, and_false, false_and, X_isLine hX.2.2.1, hb]
          simp (disch := omega) only [bnp_ok, bnd_ok, lt_ok, c0, c1, c2, c3, nI_clamp, nI_neg, nI_ltI, nI_leI, nI_eq, lt_t, lt_f, le_t, le_f, eq_t, eq_f, or_true, true_or, or_false, false_or, if_true, if_false, not_true, not_false_iff, z0, o0, o1, and_true, true_and, and_false, false_and, l0, l1, l2, f5_get_in, x1]
        · simp (disch := omega) only [bnp_ok, bnd_ok, lt_ok, c0, c1, c2, c3, nI_clamp, nI_neg, nI_ltI, nI_leI, nI_eq, lt_t, lt_f, le_t, le_f, eq_t, eq_f, or_true, true_or, or_false, false_or, if_true, if_false, not_true, not_false_iff, z0, o0, o1, and_true, true_and, and_false, false_and, M_isLine hM.2.2.1, hb, fM_btw, hc, l3, pk_mul, nI_add, m1, Nat.add_zero]
      · refine ⟨nI (a.2.2.1.2 k).2.1, ?_, ?_⟩
        · simp (disch := omega) only [bnp_ok, bnd_ok, lt_ok, c0, c1, c2, c3, nI_clamp, nI_neg, nI_ltI, nI_leI, nI_eq, lt_t, lt_f, le_t, le_f, eq_t, eq_f, or_true, true_or, or_false, false_or, if_true, if_false, not_true, not_false_iff, z0, o0, o1, and_true, true_and, and_false, false_and, X_isLine hX.2.2.1, hb]
          simp (disch := omega) only [bnp_ok, bnd_ok, lt_ok, c0, c1, c2, c3, nI_clamp, nI_neg, nI_ltI, nI_leI, nI_eq, lt_t, lt_f, le_t, le_f, eq_t, eq_f, or_true, true_or, or_false, false_or, if_true, if_false, not_true, not_false_iff, z0, o0, o1, and_true, true_and, and_false, false_and, l0, l1, l2, f5_get_in, x2]
        · simp (disch := omega) only [bnp_ok, bnd_ok, lt_ok, c0, c1, c2, c3, nI_clamp, nI_neg, nI_ltI, nI_leI, nI_eq, lt_t, lt_f, le_t, le_f, eq_t, eq_f, or_true, true_or, or_false, false_or, if_true, if_false, not_true, not_false_iff, z0, o0, o1, and_true, true_and, and_false, false_and, M_isLine hM.2.2.1, hb, fM_btw, hc, l3, pk_mul, nI_add, m2, Nat.add_zero]
      · refine ⟨nI (a.2.2.1.2 k).2.2, ?_, ?_⟩
        · simp (disch := omega) only [bnp_ok, bnd_ok, lt_ok, c0, c1, c2, c3, nI_clamp, nI_neg, nI_ltI, nI_leI, nI_eq, lt_t, lt_f, le_t, le_f, eq_t, eq_f, or_true, true_or, or_false, false_or, if_true, if_false, not_true, not_false_iff, z0, o0, o1, and_true, true_and, and_false, false_and, X_isLine hX.2.2.1, hb]
          simp (disch := omega) only [bnp_ok, bnd_ok, lt_ok, c0, c1, c2, c3, nI_clamp, nI_neg, nI_ltI, nI_leI, nI_eq, lt_t, lt_f, le_t, le_f, eq_t, eq_f, or_true, true_or, or_false, false_or, if_true, if_false, not_true, not_false_iff, z0, o0, o1, and_true, true_and, and_false, false_and, l0, l1, l2, f5_get_in, x3]
        · simp (disch := omega) only [bnp_ok, bnd_ok, lt_ok, c0, c1, c2, c3, nI_clamp, nI_neg, nI_ltI, nI_leI, nI_eq, lt_t, lt_f, le_t, le_f, eq_t, eq_f, or_true, true_or, or_false, false_or, if_true, if_false, not_true, not_false_iff, z0, o0, o1, and_true, true_and, and_false, false_and, M_isLine hM.2.2.1, hb, fM_btw, hc, l3, pk_mul, nI_add, m3, Nat.add_zero]
    · rw [← l0, ← l2] at hc
      have n0 : ¬ w = 0 := hne 0 (by decide) (by decide)
      have n1 : ¬ w = 1 := hne 1 (by decide) (by decide)
      have n2 : ¬ w = 2 := hne 2 (by decide) (by decide)
      refine ⟨-1, ?_, ?_⟩
      · simp (disch := omega) only [bnp_ok, bnd_ok, lt_ok, c0, c1, c2, c3, nI_clamp, nI_neg, nI_ltI, nI_leI, nI_eq, lt_t, lt_f, le_t, le_f, eq_t, eq_f, or_true, true_or, or_false, false_or, if_true, if_false, not_true, not_false_iff, z0, o0, o1, and_true, true_and, and_false, false_and, X_isLine hX.2.2.1, hb, n0, n1, n2]
      · simp (disch := omega) only [bnp_ok, bnd_ok, lt_ok, c0, c1, c2, c3, nI_clamp, nI_neg, nI_ltI, nI_leI, nI_eq, lt_t, lt_f, le_t, le_f, eq_t, eq_f, or_true, true_or, or_false, false_or, if_true, if_false, not_true, not_false_iff, z0, o0, o1, and_true, true_and, and_false, false_and, M_isLine hM.2.2.1, hb, fM_btw, hc]
  · refine ⟨-1, ?_, ?_⟩
    · simp (disch := omega) only [bnp_ok, bnd_ok, lt_ok, c0, c1, c2, c3, nI_clamp, nI_neg, nI_ltI, nI_leI, nI_eq, lt_t, lt_f, le_t, le_f, eq_t, eq_f, or_true, true_or, or_false, false_or, if_true, if_false, not_true, not_false_iff, z0, o0, o1, and_true, true_and, and_false, false_and, X_isLine hX.2.2.1, hb]
    · simp (disch := omega) only [bnp_ok, bnd_ok, lt_ok, c0, c1, c2, c3, nI_clamp, nI_neg, nI_ltI, nI_leI, nI_eq, lt_t, lt_f, le_t, le_f, eq_t, eq_f, or_true, true_or, or_false, false_or, if_true, if_false, not_true, not_false_iff, z0, o0, o1, and_true, true_and, and_false, false_and, M_isLine hM.2.2.1, hb]
def dropB (b : Bk) : Bk := (b.1 - 1, b.2)
theorem op_undo {a : Ab} {S : Mem} {N : Nat} (hG : GA a) (hX : XA a S) (hM : MA a S) : ∃ r S1 S2 a', f9_undo N S = some (r, S1) ∧ f10_undo N S1 = some (r, S2) ∧ Nxt a a' S S2 := by
  have hL := hG.2.2.1.1
  have x2 := hX.2.2.1.1
  have m2 := hM.2.2.1.1
  unfold f9_undo f10_undo f0_lines_15 f0_dropLatest_15
  by_cases h0 : a.2.2.1.1 = 0
  · have e0 : nI a.2.2.1.1 = 0 := by rw [h0]; rfl
    refine ⟨-2, S, S, a, ?_, ?_, Nxt_refl hG hX hM rfl⟩
    · simp (disch := omega) only [bnp_ok, bnd_ok, lt_ok, c0, c1, c2, c3, nI_clamp, nI_neg, nI_ltI, nI_leI, nI_eq, lt_t, lt_f, le_t, le_f, eq_t, eq_f, or_true, true_or, or_false, false_or, if_true, if_false, not_true, not_false_iff, z0, o0, o1, and_true, true_and, and_false, false_and, x2, e0]
    · simp (disch := omega) only [bnp_ok, bnd_ok, lt_ok, c0, c1, c2, c3, nI_clamp, nI_neg, nI_ltI, nI_leI, nI_eq, lt_t, lt_f, le_t, le_f, eq_t, eq_f, or_true, true_or, or_false, false_or, if_true, if_false, not_true, not_false_iff, z0, o0, o1, and_true, true_and, and_false, false_and, m2, e0]
  · have e0 : ¬ nI a.2.2.1.1 = 0 := ne_nI (b := 0) (by omega) (by decide) h0
    have e1 : ¬ nI a.2.2.1.1 ≤ 0 := nI_nle (by omega) (by omega)
    have e2 : nI a.2.2.1.1 - 1 = nI (a.2.2.1.1 - 1) := pk_sub (b := 1) (by omega)
    refine ⟨nI (a.2.2.1.1 - 1), wr (wr S 15 3 (nI (a.2.2.1.1 - 1))) 39 7 0, wr (wr (wr S 15 3 (nI (a.2.2.1.1 - 1))) 39 7 0) 62 0 (nI (a.2.2.1.1 - 1)), (a.1, a.2.1, dropB a.2.2.1, a.2.2.2), ?_, ?_, ⟨hG.1, hG.2.1, ⟨?_, fun k hk => hG.2.2.1.2 k ?_⟩, hG.2.2.2⟩, ?_, ?_, Or.inl ?_⟩
    · simp (disch := omega) only [bnp_ok, bnd_ok, lt_ok, c0, c1, c2, c3, nI_clamp, nI_neg, nI_ltI, nI_leI, nI_eq, lt_t, lt_f, le_t, le_f, eq_t, eq_f, or_true, true_or, or_false, false_or, if_true, if_false, not_true, not_false_iff, z0, o0, o1, and_true, true_and, and_false, false_and, x2, e0, e1, e2, f8_forget_ok, wr_ap, upd_ap]
    · simp (disch := omega) only [bnp_ok, bnd_ok, lt_ok, c0, c1, c2, c3, nI_clamp, nI_neg, nI_ltI, nI_leI, nI_eq, lt_t, lt_f, le_t, le_f, eq_t, eq_f, or_true, true_or, or_false, false_or, if_true, if_false, not_true, not_false_iff, z0, o0, o1, and_true, true_and, and_false, false_and, wr_ap, upd_ap, m2, e0, e2]
    · show a.2.2.1.1 - 1 ≤ 12; omega
    · have hk : k < a.2.2.1.1 - 1 := hk
      omega
    · refine XA_bk hX ⟨?_, fun k hk => ?_⟩ (fun q hq hn => ?_)
      · simp (disch := omega) only [bnp_ok, bnd_ok, lt_ok, c0, c1, c2, c3, nI_clamp, nI_neg, nI_ltI, nI_leI, nI_eq, lt_t, lt_f, le_t, le_f, eq_t, eq_f, or_true, true_or, or_false, false_or, if_true, if_false, not_true, not_false_iff, z0, o0, o1, and_true, true_and, and_false, false_and, wr_ap, upd_ap, dropB]
      · have hk : k < a.2.2.1.1 - 1 := hk
        simp (disch := omega) only [bnp_ok, bnd_ok, lt_ok, c0, c1, c2, c3, nI_clamp, nI_neg, nI_ltI, nI_leI, nI_eq, lt_t, lt_f, le_t, le_f, eq_t, eq_f, or_true, true_or, or_false, false_or, if_true, if_false, not_true, not_false_iff, z0, o0, o1, and_true, true_and, and_false, false_and, wr_ap, Nat.reduceAdd, dropB]
        exact hX.2.2.1.2 k (by omega)
      · have hq2 : q ≠ 39 ∧ q ≠ 62 ∧ q ≠ 15 := by
          simp only [List.mem_cons, List.not_mem_nil, or_false, not_or] at hn
          refine ⟨?_, ?_, hn.1⟩ <;> (intro e; subst e; revert hq; decide)
        simp (disch := omega) only [bnp_ok, bnd_ok, lt_ok, c0, c1, c2, c3, nI_clamp, nI_neg, nI_ltI, nI_leI, nI_eq, lt_t, lt_f, le_t, le_f, eq_t, eq_f, or_true, true_or, or_false, false_or, if_true, if_false, not_true, not_false_iff, z0, o0, o1, and_true, true_and, and_false, false_and, wr_ap, hq2.1, hq2.2.1, hq2.2.2]
    · refine MA_bk hG hM ⟨?_, fun k hk => ?_⟩ ?_ (fun q hq h62 h63 => ?_) (fun i hi => ?_) (fun i hi => ?_)
      · simp (disch := omega) only [bnp_ok, bnd_ok, lt_ok, c0, c1, c2, c3, nI_clamp, nI_neg, nI_ltI, nI_leI, nI_eq, lt_t, lt_f, le_t, le_f, eq_t, eq_f, or_true, true_or, or_false, false_or, if_true, if_false, not_true, not_false_iff, z0, o0, o1, and_true, true_and, and_false, false_and, wr_ap, upd_ap, dropB]
      · have hk : k < a.2.2.1.1 - 1 := hk
        simp (disch := omega) only [bnp_ok, bnd_ok, lt_ok, c0, c1, c2, c3, nI_clamp, nI_neg, nI_ltI, nI_leI, nI_eq, lt_t, lt_f, le_t, le_f, eq_t, eq_f, or_true, true_or, or_false, false_or, if_true, if_false, not_true, not_false_iff, z0, o0, o1, and_true, true_and, and_false, false_and, wr_ap, dropB]
        exact hM.2.2.1.2 k (by omega)
      · simp (disch := omega) only [bnp_ok, bnd_ok, lt_ok, c0, c1, c2, c3, nI_clamp, nI_neg, nI_ltI, nI_leI, nI_eq, lt_t, lt_f, le_t, le_f, eq_t, eq_f, or_true, true_or, or_false, false_or, if_true, if_false, not_true, not_false_iff, z0, o0, o1, and_true, true_and, and_false, false_and, wr_ap]
      · have hq2 : q ≠ 39 ∧ q ≠ 15 := by refine ⟨?_, ?_⟩ <;> (intro e; subst e; revert hq; decide)
        simp (disch := omega) only [bnp_ok, bnd_ok, lt_ok, c0, c1, c2, c3, nI_clamp, nI_neg, nI_ltI, nI_leI, nI_eq, lt_t, lt_f, le_t, le_f, eq_t, eq_f, or_true, true_or, or_false, false_or, if_true, if_false, not_true, not_false_iff, z0, o0, o1, and_true, true_and, and_false, false_and, wr_ap, hq2.1, hq2.2, h62]
      · simp (disch := omega) only [bnp_ok, bnd_ok, lt_ok, c0, c1, c2, c3, nI_clamp, nI_neg, nI_ltI, nI_leI, nI_eq, lt_t, lt_f, le_t, le_f, eq_t, eq_f, or_true, true_or, or_false, false_or, if_true, if_false, not_true, not_false_iff, z0, o0, o1, and_true, true_and, and_false, false_and, wr_ap, upd_ap]
      · simp (disch := omega) only [bnp_ok, bnd_ok, lt_ok, c0, c1, c2, c3, nI_clamp, nI_neg, nI_ltI, nI_leI, nI_eq, lt_t, lt_f, le_t, le_f, eq_t, eq_f, or_true, true_or, or_false, false_or, if_true, if_false, not_true, not_false_iff, z0, o0, o1, and_true, true_and, and_false, false_and, wr_ap]
    · simp (disch := omega) only [bnp_ok, bnd_ok, lt_ok, c0, c1, c2, c3, nI_clamp, nI_neg, nI_ltI, nI_leI, nI_eq, lt_t, lt_f, le_t, le_f, eq_t, eq_f, or_true, true_or, or_false, false_or, if_true, if_false, not_true, not_false_iff, z0, o0, o1, and_true, true_and, and_false, false_and, wr_ap, upd_ap]
/-- copies of a book -/
theorem M_copy_ok {S : Mem} {N i j : Nat} (hi : i < 3) (hj : j < 3) (hij : i ≠ j) (hN : 36 < N) : ∃ S', f10_copy N (nI i) (nI j) S = some ((), S') ∧ (∀ q, q ∉ [62, 63] → S' q = S q) ∧ (S' 62).1 j = (S 62).1 i ∧ (∀ m, m ≠ j → (S' 62).1 m = (S 62).1 m) ∧ (∀ m, m < 36 → (S' 63).1 (36 * j + m) = (S 63).1 (36 * i + m)) ∧ (∀ m, m < 36 * j ∨ 36 * j + 36 ≤ m → (S' 63).1 m = (S 63).1 m) := by
  unfold f10_copy
  simp (disch := omega) only [bnp_ok, bnd_ok, lt_ok, c0, c1, c2, c3, nI_clamp, nI_neg, nI_ltI, nI_leI, nI_eq, lt_t, lt_f, le_t, le_f, eq_t, eq_f, or_true, true_or, or_false, false_or, if_true, if_false, not_true, not_false_iff, z0, o0, o1, and_true, true_and, and_false, false_and]
  obtain ⟨r, h1, h2, h3, h4, h5⟩ := lp_inv (f := fun s : Int32 × Mem => f10_copy_L14 N (nI i) (nI j) s.1 s.2) (s := ((0 : Int32), wr S 62 j ((S 62).1 i))) (N := N)
    (fun n s => s.1 = nI n ∧ (∀ q, q ≠ 62 → q ≠ 63 → s.2 q = S q) ∧ (s.2 62 = (upd (S 62).1 j ((S 62).1 i), (S 62).2)) ∧ (∀ m, m < n → (s.2 63).1 (36 * j + m) = (S 63).1 (36 * i + m)) ∧ (∀ m, m < 36 * j ∨ 36 * j + n ≤ m → (s.2 63).1 m = (S 63).1 m))
    (fun S' => (∀ q, q ≠ 62 → q ≠ 63 → S' q = S q) ∧ (S' 62 = (upd (S 62).1 j ((S 62).1 i), (S 62).2)) ∧ (∀ m, m < 36 → (S' 63).1 (36 * j + m) = (S 63).1 (36 * i + m)) ∧ (∀ m, m < 36 * j ∨ 36 * j + 36 ≤ m → (S' 63).1 m = (S 63).1 m)) 36
    (by
      rintro n ⟨x, U⟩ hn ⟨hx, h1, h2, h3, h4⟩
      dsimp only at hx h1 h2 h3 h4 ⊢
      subst hx
      refine ⟨(nI (n + 1), wr U 63 (36 * j + n) ((U 63).1 (36 * i + n))), ?_, rfl, ?_, ?_, ?_, ?_⟩
      · unfold f10_copy_L14
        have hle : ¬ (36 : Int32) ≤ nI n := nI_ge (b := 36) hn (by decide)
        simp (disch := omega) only [bnp_ok, bnd_ok, lt_ok, c0, c1, c2, c3, nI_clamp, nI_neg, nI_ltI, nI_leI, nI_eq, lt_t, lt_f, le_t, le_f, eq_t, eq_f, or_true, true_or, or_false, false_or, if_true, if_false, not_true, not_false_iff, z0, o0, o1, and_true, true_and, and_false, false_and, if_neg hle, l36, pk_mul, nI_add, nI_1]
      · intro q hq1 hq2
        dsimp only
        rw [wr_ne _ _ _ _ hq2, h1 q hq1 hq2]
      · dsimp only
        rw [wr_ne _ _ _ _ (by decide), h2]
      · intro m hm
        dsimp only
        rw [wr_at]
        dsimp only
        rw [upd_ap]
        by_cases e : m = n
        · subst e
          rw [if_pos rfl]
          refine h4 _ ?_
          omega
        · rw [if_neg (by omega)]
          exact h3 m (by omega)
      · intro m hm
        dsimp only
        rw [wr_at]
        dsimp only
        rw [upd_ap, if_neg (by omega)]
        exact h4 m (by omega))
    (by
      rintro ⟨x, U⟩ ⟨hx, h1, h2, h3, h4⟩
      dsimp only at hx h1 h2 h3 h4 ⊢
      subst hx
      refine ⟨U, ?_, h1, h2, h3, h4⟩
      unfold f10_copy_L14
      rw [if_pos (show (36 : Int32) ≤ nI 36 from nI_le (a := 36) (Nat.le_refl _) (by decide))])
    hN ⟨rfl, fun q h1 h2 => wr_ne _ _ _ _ h1, wr_at S 62 j ((S 62).1 i), fun m hm => absurd hm (Nat.not_lt_zero m), fun m _ => by dsimp only; rw [wr_ne _ _ _ _ (by decide)]⟩
  rw [h1, bnp_ok]
  refine ⟨r, rfl, fun q hq => ?_, ?_, fun m hm => ?_, h4, h5⟩
  · simp only [List.mem_cons, List.not_mem_nil, or_false, not_or] at hq
    exact h2 q hq.1 hq.2
  · rw [h3]
    exact if_pos rfl
  · rw [h3]
    exact if_neg hm
theorem MBk_copy {b : Bk} {S S' : Mem} {i j : Nat} (h : MBk b S i) (h12 : b.1 ≤ 12) (h1 : (S' 62).1 j = (S 62).1 i) (h2 : ∀ m, m < 36 → (S' 63).1 (36 * j + m) = (S 63).1 (36 * i + m)) : MBk b S' j := by
  refine ⟨by rw [h1]; exact h.1, fun k hk => ?_⟩
  obtain ⟨a1, a2, a3⟩ := h.2 k hk
  exact ⟨by rw [h2 _ (by omega)]; exact a1, by rw [h2 _ (by omega)]; exact a2, by rw [h2 _ (by omega)]; exact a3⟩
/-- copies on the class's side: written once for all four -/
theorem X_copy_ok {b : Bk} {S : Mem} {N q p : Nat} {f : Nat → Mem → Option (Unit × Mem)} (hf : ∀ S, f N S = bnd (f5_copyFrom N (q + 1) 12 (p + 1) 12 S) fun _ S2 => bnd (f5_copyFrom N (q + 3) 12 (p + 3) 12 S2) fun _ S4 => bnd (f5_copyFrom N (q + 5) 12 (p + 5) 12 S4) fun _ S6 => lt_ (wr S6 q 3 ((S6 p).1 3)) fun S7 => some ((), S7))
    (hd : q + 6 < p ∨ p + 6 < q) (hN : 12 < N) (h : XBk b S p) (h12 : b.1 ≤ 12) : ∃ S', f N S = some ((), S') ∧ XBk b S' q ∧ ∀ a, a ∉ [q, q + 2, q + 4, q + 6] → S' a = S a := by
  obtain ⟨S1, a1, a2, a3⟩ := f5_copy_ok (N := N) (k := q + 1) (n := 12) (k2 := p + 1) (S := S) (by omega) (by decide) hN
  obtain ⟨S2, b1, b2, b3⟩ := f5_copy_ok (N := N) (k := q + 3) (n := 12) (k2 := p + 3) (S := S1) (by omega) (by decide) hN
  obtain ⟨S3, d1, d2, d3⟩ := f5_copy_ok (N := N) (k := q + 5) (n := 12) (k2 := p + 5) (S := S2) (by omega) (by decide) hN
  refine ⟨wr S3 q 3 ((S3 p).1 3), ?_, ⟨?_, fun k hk => ?_⟩, fun a ha => ?_⟩
  · rw [hf, a1, bnd_ok, b1, bnd_ok, d1, bnd_ok, lt_ok]
  · rw [wr_at]
    dsimp only
    rw [upd_ap, if_pos rfl, d2 p (by omega), b2 p (by omega), a2 p (by omega)]
    exact h.1
  · obtain ⟨k1, k2, k3⟩ := h.2 k hk
    refine ⟨?_, ?_, ?_⟩
    · rw [wr_ne _ _ _ _ (by omega), d2 _ (by omega), b2 _ (by omega)]
      rw [show q + 2 = q + 1 + 1 by omega, a3 k (by omega)]
      exact k1
    · rw [wr_ne _ _ _ _ (by omega), d2 _ (by omega)]
      rw [show q + 4 = q + 3 + 1 by omega, b3 k (by omega), a2 _ (by omega)]
      exact k2
    · rw [wr_ne _ _ _ _ (by omega)]
      rw [show q + 6 = q + 5 + 1 by omega, d3 k (by omega), b2 _ (by omega), a2 _ (by omega)]
      exact k3
  · simp only [List.mem_cons, List.not_mem_nil, or_false, not_or] at ha
    rw [wr_ne _ _ _ _ ha.1, d2 a (by omega), b2 a (by omega), a2 a (by omega)]
theorem op_keep {a : Ab} {S : Mem} {N : Nat} (hN : 36 < N) (hG : GA a) (hX : XA a S) (hM : MA a S) (i : Int32) : ∃ r S1 S2 a', f9_keep N i S = some (r, S1) ∧ f10_keep N i S1 = some (r, S2) ∧ Nxt a a' S S2 := by
  have hL := hG.2.2.1.1
  have x2 := hX.2.2.1.1
  unfold f9_keep f10_keep f0_lines_15
  rcases btw_lit (i := i) (a := 0) (b := 1) (by decide) (by decide) with ⟨i, -, hi, rfl, hb⟩ | ⟨hne, hb⟩
  · rw [← l0, ← l1] at hb
    rcases (show i = 0 ∨ i = 1 by omega) with rfl | rfl
    · obtain ⟨S1, k1, k2, k3⟩ := X_copy_ok (f := f0_copyFrom_23_15) (q := 23) (p := 15) (b := a.2.2.1) (S := S) (N := N) (fun _ => rfl) (by decide) (by omega) hX.2.2.1 hL
      have e57 : ∀ q, 57 ≤ q → (wr S1 22 1 1) q = S q := fun q hq => by rw [wr_ne _ _ _ _ (by omega), k3 q (by simp only [List.mem_cons, List.not_mem_nil, or_false, not_or]; omega)]
      have hM1 := MA_keep hM e57
      obtain ⟨S2, m1, m2, m3, m4, m5, m6⟩ := M_copy_ok (S := wr S1 22 1 1) (N := N) (i := 0) (j := 1) (by decide) (by decide) (by decide) hN
      have e2 : ∀ q, q < 57 → (wr S2 64 0 (vp_nar .boolean 1)) q = (wr S1 22 1 1) q := fun q hq => by rw [wr_ne _ _ _ _ (by omega), m2 q (by simp only [List.mem_cons, List.not_mem_nil, or_false, not_or]; omega)]
      have x15 : (S1 15).1 3 = nI a.2.2.1.1 := by rw [k3 15 (by decide)]; exact x2
      have y62 : (S2 62).1 0 = nI a.2.2.1.1 := by rw [m4 0 (by decide)]; exact hM1.2.2.1.1
      refine ⟨nI a.2.2.1.1, wr S1 22 1 1, wr S2 64 0 (vp_nar .boolean 1), (a.1, a.2.1, a.2.2.1, (true, a.2.2.1), a.2.2.2.2), ?_, ?_, ⟨hG.1, hG.2.1, hG.2.2.1, fun _ => hG.2.2.1, hG.2.2.2.2⟩, ?_, ?_, Or.inr ⟨rfl, rfl, fun q hq => ?_⟩⟩
      · unfold f1_take_22_15
        simp (disch := omega) only [bnp_ok, bnd_ok, lt_ok, c0, c1, c2, c3, nI_clamp, nI_neg, nI_ltI, nI_leI, nI_eq, lt_t, lt_f, le_t, le_f, eq_t, eq_f, or_true, true_or, or_false, false_or, if_true, if_false, not_true, not_false_iff, z0, o0, o1, and_true, true_and, and_false, false_and, fX_btw, hb, k1, wr_ap, x15, show (nI 0 = (0 : Int32)) = True from eq_true rfl]
      · have e01 : (1 : Int32) + nI 0 = nI 1 := rfl
        have m1' : f10_copy N (0 : Int32) (nI 1) (wr S1 22 1 1) = some ((), S2) := m1
        simp (disch := omega) only [bnp_ok, bnd_ok, lt_ok, c0, c1, c2, c3, nI_clamp, nI_neg, nI_ltI, nI_leI, nI_eq, lt_t, lt_f, le_t, le_f, eq_t, eq_f, or_true, true_or, or_false, false_or, if_true, if_false, not_true, not_false_iff, z0, o0, o1, and_true, true_and, and_false, false_and, fM_btw, hb, e01, m1', wr_ap, y62]
      · refine XA_i0 hX ⟨?_, fun _ => ?_⟩ (fun q hq hn => ?_)
        · rw [e2 22 (by decide), wr_at]
          dsimp only
          rw [upd_ap, if_pos rfl]
          rfl
        · exact XBk_eq (S := S1) k2 (by rw [e2 _ (by decide), wr_ne _ _ _ _ (by decide)]) (by rw [e2 _ (by decide), wr_ne _ _ _ _ (by decide)]) (by rw [e2 _ (by decide), wr_ne _ _ _ _ (by decide)]) (by rw [e2 _ (by decide), wr_ne _ _ _ _ (by decide)])
        · have hq2 : q < 57 := by revert q; decide
          simp only [List.mem_cons, List.not_mem_nil, or_false, not_or] at hn
          rw [e2 q hq2, wr_ne _ _ _ _ hn.1, k3 q (by simp only [List.mem_cons, List.not_mem_nil, or_false, not_or]; omega)]
      · obtain ⟨h1, h2, h3, h4, h5, h6⟩ := hM1
        have n64 : ∀ q, q ≠ 64 → (wr S2 64 0 (vp_nar .boolean 1)) q = S2 q := fun q hq => wr_ne _ _ _ _ hq
        refine ⟨MTx_eq h1 (by rw [n64 57 (by decide), m2 57 (by decide)]) (by rw [n64 58 (by decide), m2 58 (by decide)]), MSc_eq h2 (by rw [n64 59 (by decide), m2 59 (by decide)]) (by rw [n64 60 (by decide), m2 60 (by decide)]) (by rw [n64 61 (by decide), m2 61 (by decide)]), ?_, ⟨?_, fun _ => ?_⟩, ?_, by rw [n64 57 (by decide), m2 57 (by decide)]; exact h6⟩
        · exact MBk_v h3 hL (by rw [n64 62 (by decide), m4 0 (by decide)]) (fun j h1 h2 => by rw [n64 63 (by decide), m6 j (by omega)])
        · rw [wr_at]
          dsimp only
          rw [upd_ap, if_pos rfl]
          rfl
        · exact MBk_copy h3 hL (by rw [n64 62 (by decide)]; exact m3) (fun m hm => by rw [n64 63 (by decide)]; exact m5 m hm)
        · exact MIm_v h5 (fun hk => (hG.2.2.2.2 hk).1) (by rw [n64 62 (by decide), m4 _ (by decide)]) (fun j h1 h2 => by rw [n64 63 (by decide), m6 j (by omega)]) (by rw [wr_at]; dsimp only; rw [upd_ap, if_neg (by decide), m2 64 (by decide)])
      · have hq2 : q < 57 ∧ q ≠ 22 ∧ q ∉ [23, 23 + 2, 23 + 4, 23 + 6] := by revert q; decide
        rw [e2 q hq2.1, wr_ne _ _ _ _ hq2.2.1, k3 q hq2.2.2]
    · obtain ⟨S1, k1, k2, k3⟩ := X_copy_ok (f := f0_copyFrom_31_15) (q := 31) (p := 15) (b := a.2.2.1) (S := S) (N := N) (fun _ => rfl) (by decide) (by omega) hX.2.2.1 hL
      have e57 : ∀ q, 57 ≤ q → (wr S1 30 1 1) q = S q := fun q hq => by rw [wr_ne _ _ _ _ (by omega), k3 q (by simp only [List.mem_cons, List.not_mem_nil, or_false, not_or]; omega)]
      have hM1 := MA_keep hM e57
      obtain ⟨S2, m1, m2, m3, m4, m5, m6⟩ := M_copy_ok (S := wr S1 30 1 1) (N := N) (i := 0) (j := 2) (by decide) (by decide) (by decide) hN
      have e2 : ∀ q, q < 57 → (wr S2 64 1 (vp_nar .boolean 1)) q = (wr S1 30 1 1) q := fun q hq => by rw [wr_ne _ _ _ _ (by omega), m2 q (by simp only [List.mem_cons, List.not_mem_nil, or_false, not_or]; omega)]
      have x15 : (S1 15).1 3 = nI a.2.2.1.1 := by rw [k3 15 (by decide)]; exact x2
      have y62 : (S2 62).1 0 = nI a.2.2.1.1 := by rw [m4 0 (by decide)]; exact hM1.2.2.1.1
      refine ⟨nI a.2.2.1.1, wr S1 30 1 1, wr S2 64 1 (vp_nar .boolean 1), (a.1, a.2.1, a.2.2.1, a.2.2.2.1, (true, a.2.2.1), a.2.2.2.2.2), ?_, ?_, ⟨hG.1, hG.2.1, hG.2.2.1, hG.2.2.2.1, fun _ => hG.2.2.1⟩, ?_, ?_, Or.inr ⟨rfl, rfl, fun q hq => ?_⟩⟩
      · unfold f1_take_30_15
        simp (disch := omega) only [bnp_ok, bnd_ok, lt_ok, c0, c1, c2, c3, nI_clamp, nI_neg, nI_ltI, nI_leI, nI_eq, lt_t, lt_f, le_t, le_f, eq_t, eq_f, or_true, true_or, or_false, false_or, if_true, if_false, not_true, not_false_iff, z0, o0, o1, and_true, true_and, and_false, false_and, fX_btw, hb, k1, wr_ap, x15, show (nI 1 = (0 : Int32)) = False by decide]
      · have e01 : (1 : Int32) + nI 1 = nI 2 := rfl
        have m1' : f10_copy N (0 : Int32) (nI 2) (wr S1 30 1 1) = some ((), S2) := m1
        simp (disch := omega) only [bnp_ok, bnd_ok, lt_ok, c0, c1, c2, c3, nI_clamp, nI_neg, nI_ltI, nI_leI, nI_eq, lt_t, lt_f, le_t, le_f, eq_t, eq_f, or_true, true_or, or_false, false_or, if_true, if_false, not_true, not_false_iff, z0, o0, o1, and_true, true_and, and_false, false_and, fM_btw, hb, e01, m1', wr_ap, y62]
      · refine XA_i1 hX ⟨?_, fun _ => ?_⟩ (fun q hq hn => ?_)
        · rw [e2 30 (by decide), wr_at]
          dsimp only
          rw [upd_ap, if_pos rfl]
          rfl
        · exact XBk_eq (S := S1) k2 (by rw [e2 _ (by decide), wr_ne _ _ _ _ (by decide)]) (by rw [e2 _ (by decide), wr_ne _ _ _ _ (by decide)]) (by rw [e2 _ (by decide), wr_ne _ _ _ _ (by decide)]) (by rw [e2 _ (by decide), wr_ne _ _ _ _ (by decide)])
        · have hq2 : q < 57 := by revert q; decide
          simp only [List.mem_cons, List.not_mem_nil, or_false, not_or] at hn
          rw [e2 q hq2, wr_ne _ _ _ _ hn.1, k3 q (by simp only [List.mem_cons, List.not_mem_nil, or_false, not_or]; omega)]
      · obtain ⟨h1, h2, h3, h4, h5, h6⟩ := hM1
        have n64 : ∀ q, q ≠ 64 → (wr S2 64 1 (vp_nar .boolean 1)) q = S2 q := fun q hq => wr_ne _ _ _ _ hq
        refine ⟨MTx_eq h1 (by rw [n64 57 (by decide), m2 57 (by decide)]) (by rw [n64 58 (by decide), m2 58 (by decide)]), MSc_eq h2 (by rw [n64 59 (by decide), m2 59 (by decide)]) (by rw [n64 60 (by decide), m2 60 (by decide)]) (by rw [n64 61 (by decide), m2 61 (by decide)]), ?_, ?_, ⟨?_, fun _ => ?_⟩, by rw [n64 57 (by decide), m2 57 (by decide)]; exact h6⟩
        · exact MBk_v h3 hL (by rw [n64 62 (by decide), m4 0 (by decide)]) (fun j h1 h2 => by rw [n64 63 (by decide), m6 j (by omega)])
        · exact MIm_v h4 (fun hk => (hG.2.2.2.1 hk).1) (by rw [n64 62 (by decide), m4 _ (by decide)]) (fun j h1 h2 => by rw [n64 63 (by decide), m6 j (by omega)]) (by rw [wr_at]; dsimp only; rw [upd_ap, if_neg (by decide), m2 64 (by decide)])
        · rw [wr_at]
          dsimp only
          rw [upd_ap, if_pos rfl]
          rfl
        · exact MBk_copy h3 hL (by rw [n64 62 (by decide)]; exact m3) (fun m hm => by rw [n64 63 (by decide)]; exact m5 m hm)
      · have hq2 : q < 57 ∧ q ≠ 30 ∧ q ∉ [31, 31 + 2, 31 + 4, 31 + 6] := by revert q; decide
        rw [e2 q hq2.1, wr_ne _ _ _ _ hq2.2.1, k3 q hq2.2.2]
  · refine ⟨-1, S, S, a, ?_, ?_, Nxt_refl hG hX hM rfl⟩
    · rw [← l0, ← l1] at hb
      simp (disch := omega) only [bnp_ok, bnd_ok, lt_ok, c0, c1, c2, c3, nI_clamp, nI_neg, nI_ltI, nI_leI, nI_eq, lt_t, lt_f, le_t, le_f, eq_t, eq_f, or_true, true_or, or_false, false_or, if_true, if_false, not_true, not_false_iff, z0, o0, o1, and_true, true_and, and_false, false_and, fX_btw, hb]
    · rw [← l0, ← l1] at hb
      simp (disch := omega) only [bnp_ok, bnd_ok, lt_ok, c0, c1, c2, c3, nI_clamp, nI_neg, nI_ltI, nI_leI, nI_eq, lt_t, lt_f, le_t, le_f, eq_t, eq_f, or_true, true_or, or_false, false_or, if_true, if_false, not_true, not_false_iff, z0, o0, o1, and_true, true_and, and_false, false_and, fM_btw, hb]
