theorem bIt : bI true = 1 := rfl
theorem bIf : bI false = 0 := rfl
theorem op_back {a : Ab} {S : Mem} {N : Nat} (hN : 36 < N) (hG : GA a) (hX : XA a S) (hM : MA a S) (i : Int32) : ∃ r S1 S2 a', f9_back N i S = some (r, S1) ∧ f10_back N i S1 = some (r, S2) ∧ Nxt a a' S S2 := by
  unfold f9_back f10_back f0_lines_15 f1_isKept_22 f1_isKept_30 f1_kept_22 f1_kept_30
  rcases btw_lit (i := i) (a := 0) (b := 1) (by decide) (by decide) with ⟨i, -, hi, rfl, hb⟩ | ⟨hne, hb⟩
  · rw [← l0, ← l1] at hb
    rcases (show i = 0 ∨ i = 1 by omega) with rfl | rfl
    · have x1 := hX.2.2.2.1.1
      have m1 := hM.2.2.2.1.1
      cases hk : a.2.2.2.1.1 with
      | false =>
        rw [hk] at x1 m1
        refine ⟨-2, S, S, a, ?_, ?_, Nxt_refl hG hX hM rfl⟩
        · simp (disch := omega) only [bnp_ok, bnd_ok, lt_ok, c0, c1, c2, c3, nI_clamp, nI_neg, nI_ltI, nI_leI, nI_eq, lt_t, lt_f, le_t, le_f, eq_t, eq_f, or_true, true_or, or_false, false_or, if_true, if_false, not_true, not_false_iff, z0, o0, o1, and_true, true_and, and_false, false_and, fX_btw, hb, x1, bIf, show (nI 0 = (0 : Int32)) = True from eq_true rfl]
        · simp (disch := omega) only [bnp_ok, bnd_ok, lt_ok, c0, c1, c2, c3, nI_clamp, nI_neg, nI_ltI, nI_leI, nI_eq, lt_t, lt_f, le_t, le_f, eq_t, eq_f, or_true, true_or, or_false, false_or, if_true, if_false, not_true, not_false_iff, z0, o0, o1, and_true, true_and, and_false, false_and, fM_btw, hb, m1, bIf]
      | true =>
        rw [hk] at x1 m1
        have gB := hG.2.2.2.1 hk
        obtain ⟨S1, k1, k2, k3⟩ := X_copy_ok (f := f0_copyFrom_15_23) (q := 15) (p := 23) (b := a.2.2.2.1.2) (S := S) (N := N) (fun _ => rfl) (by decide) (by omega) (hX.2.2.2.1.2 hk) gB.1
        have e57 : ∀ q, 57 ≤ q → (wr S1 39 7 0) q = S q := fun q hq => by rw [wr_ne _ _ _ _ (by omega), k3 q (by simp only [List.mem_cons, List.not_mem_nil, or_false, not_or]; omega)]
        have hM1 := MA_keep hM e57
        obtain ⟨S2, m2, m3, m4, m5, m6, m7⟩ := M_copy_ok (S := wr S1 39 7 0) (N := N) (i := 1) (j := 0) (by decide) (by decide) (by decide) hN
        have e2 : ∀ q, q < 57 → S2 q = (wr S1 39 7 0) q := fun q hq => m3 q (by simp only [List.mem_cons, List.not_mem_nil, or_false, not_or]; omega)
        have y64 : ((wr S1 39 7 0) 64).1 0 = 1 := by rw [e57 64 (by decide)]; exact m1
        have y62 : (S2 62).1 0 = nI a.2.2.2.1.2.1 := by rw [m4]; exact (hM1.2.2.2.1.2 hk).1
        refine ⟨nI a.2.2.2.1.2.1, wr S1 39 7 0, S2, (a.1, a.2.1, a.2.2.2.1.2, a.2.2.2), ?_, ?_, ⟨hG.1, hG.2.1, gB, hG.2.2.2⟩, ?_, ?_, Or.inl ?_⟩
        · simp (disch := omega) only [bnp_ok, bnd_ok, lt_ok, c0, c1, c2, c3, nI_clamp, nI_neg, nI_ltI, nI_leI, nI_eq, lt_t, lt_f, le_t, le_f, eq_t, eq_f, or_true, true_or, or_false, false_or, if_true, if_false, not_true, not_false_iff, z0, o0, o1, and_true, true_and, and_false, false_and, fX_btw, hb, x1, bIt, k1, f8_forget_ok, wr_ap, k2.1, show (nI 0 = (0 : Int32)) = True from eq_true rfl]
        · have e01 : (1 : Int32) + nI 0 = nI 1 := rfl
          have m2' : f10_copy N (nI 1) (0 : Int32) (wr S1 39 7 0) = some ((), S2) := m2
          simp (disch := omega) only [bnp_ok, bnd_ok, lt_ok, c0, c1, c2, c3, nI_clamp, nI_neg, nI_ltI, nI_leI, nI_eq, lt_t, lt_f, le_t, le_f, eq_t, eq_f, or_true, true_or, or_false, false_or, if_true, if_false, not_true, not_false_iff, z0, o0, o1, and_true, true_and, and_false, false_and, fM_btw, hb, y64, e01, m2', y62]
        · refine XA_bk hX ?_ (fun q hq hn => ?_)
          · exact XBk_eq (S := S1) k2 (by rw [e2 _ (by decide), wr_ne _ _ _ _ (by decide)]) (by rw [e2 _ (by decide), wr_ne _ _ _ _ (by decide)]) (by rw [e2 _ (by decide), wr_ne _ _ _ _ (by decide)]) (by rw [e2 _ (by decide), wr_ne _ _ _ _ (by decide)])
          · have hq2 : q < 57 ∧ q ≠ 39 := by revert q; decide
            rw [e2 q hq2.1, wr_ne _ _ _ _ hq2.2, k3 q hn]
        · refine MA_bk hG hM (MBk_copy (hM1.2.2.2.1.2 hk) gB.1 m4 m6) (by rw [m3 57 (by decide), e57 57 (by decide)]) (fun q hq h62 h63 => ?_) (fun i hi => by rw [m5 i (by omega), e57 62 (by decide)]) (fun i hi => by rw [m7 i (by omega), e57 63 (by decide)])
          have hq2 : 57 ≤ q := by revert q; decide
          rw [m3 q (by simp only [List.mem_cons, List.not_mem_nil, or_false, not_or]; exact ⟨h62, h63⟩), e57 q hq2]
        · rw [e2 39 (by decide)]
          simp (disch := omega) only [bnp_ok, bnd_ok, lt_ok, c0, c1, c2, c3, nI_clamp, nI_neg, nI_ltI, nI_leI, nI_eq, lt_t, lt_f, le_t, le_f, eq_t, eq_f, or_true, true_or, or_false, false_or, if_true, if_false, not_true, not_false_iff, z0, o0, o1, and_true, true_and, and_false, false_and, wr_ap, upd_ap]
    · have x1 := hX.2.2.2.2.1.1
      have m1 := hM.2.2.2.2.1.1
      cases hk : a.2.2.2.2.1.1 with
      | false =>
        rw [hk] at x1 m1
        refine ⟨-2, S, S, a, ?_, ?_, Nxt_refl hG hX hM rfl⟩
        · simp (disch := omega) only [bnp_ok, bnd_ok, lt_ok, c0, c1, c2, c3, nI_clamp, nI_neg, nI_ltI, nI_leI, nI_eq, lt_t, lt_f, le_t, le_f, eq_t, eq_f, or_true, true_or, or_false, false_or, if_true, if_false, not_true, not_false_iff, z0, o0, o1, and_true, true_and, and_false, false_and, fX_btw, hb, x1, bIf, show (nI 1 = (0 : Int32)) = False by decide]
        · simp (disch := omega) only [bnp_ok, bnd_ok, lt_ok, c0, c1, c2, c3, nI_clamp, nI_neg, nI_ltI, nI_leI, nI_eq, lt_t, lt_f, le_t, le_f, eq_t, eq_f, or_true, true_or, or_false, false_or, if_true, if_false, not_true, not_false_iff, z0, o0, o1, and_true, true_and, and_false, false_and, fM_btw, hb, m1, bIf]
      | true =>
        rw [hk] at x1 m1
        have gB := hG.2.2.2.2 hk
        obtain ⟨S1, k1, k2, k3⟩ := X_copy_ok (f := f0_copyFrom_15_31) (q := 15) (p := 31) (b := a.2.2.2.2.1.2) (S := S) (N := N) (fun _ => rfl) (by decide) (by omega) (hX.2.2.2.2.1.2 hk) gB.1
        have e57 : ∀ q, 57 ≤ q → (wr S1 39 7 0) q = S q := fun q hq => by rw [wr_ne _ _ _ _ (by omega), k3 q (by simp only [List.mem_cons, List.not_mem_nil, or_false, not_or]; omega)]
        have hM1 := MA_keep hM e57
        obtain ⟨S2, m2, m3, m4, m5, m6, m7⟩ := M_copy_ok (S := wr S1 39 7 0) (N := N) (i := 2) (j := 0) (by decide) (by decide) (by decide) hN
        have e2 : ∀ q, q < 57 → S2 q = (wr S1 39 7 0) q := fun q hq => m3 q (by simp only [List.mem_cons, List.not_mem_nil, or_false, not_or]; omega)
        have y64 : ((wr S1 39 7 0) 64).1 1 = 1 := by rw [e57 64 (by decide)]; exact m1
        have y62 : (S2 62).1 0 = nI a.2.2.2.2.1.2.1 := by rw [m4]; exact (hM1.2.2.2.2.1.2 hk).1
        refine ⟨nI a.2.2.2.2.1.2.1, wr S1 39 7 0, S2, (a.1, a.2.1, a.2.2.2.2.1.2, a.2.2.2), ?_, ?_, ⟨hG.1, hG.2.1, gB, hG.2.2.2⟩, ?_, ?_, Or.inl ?_⟩
        · simp (disch := omega) only [bnp_ok, bnd_ok, lt_ok, c0, c1, c2, c3, nI_clamp, nI_neg, nI_ltI, nI_leI, nI_eq, lt_t, lt_f, le_t, le_f, eq_t, eq_f, or_true, true_or, or_false, false_or, if_true, if_false, not_true, not_false_iff, z0, o0, o1, and_true, true_and, and_false, false_and, fX_btw, hb, x1, bIt, k1, f8_forget_ok, wr_ap, k2.1, show (nI 1 = (0 : Int32)) = False by decide]
        · have e01 : (1 : Int32) + nI 1 = nI 2 := rfl
          have m2' : f10_copy N (nI 2) (0 : Int32) (wr S1 39 7 0) = some ((), S2) := m2
          simp (disch := omega) only [bnp_ok, bnd_ok, lt_ok, c0, c1, c2, c3, nI_clamp, nI_neg, nI_ltI, nI_leI, nI_eq, lt_t, lt_f, le_t, le_f, eq_t, eq_f, or_true, true_or, or_false, false_or, if_true, if_false, not_true, not_false_iff, z0, o0, o1, and_true, true_and, and_false, false_and, fM_btw, hb, y64, e01, m2', y62]
        · refine XA_bk hX ?_ (fun q hq hn => ?_)
          · exact XBk_eq (S := S1) k2 (by rw [e2 _ (by decide), wr_ne _ _ _ _ (by decide)]) (by rw [e2 _ (by decide), wr_ne _ _ _ _ (by decide)]) (by rw [e2 _ (by decide), wr_ne _ _ _ _ (by decide)]) (by rw [e2 _ (by decide), wr_ne _ _ _ _ (by decide)])
          · have hq2 : q < 57 ∧ q ≠ 39 := by revert q; decide
            rw [e2 q hq2.1, wr_ne _ _ _ _ hq2.2, k3 q hn]
        · refine MA_bk hG hM (MBk_copy (hM1.2.2.2.2.1.2 hk) gB.1 m4 m6) (by rw [m3 57 (by decide), e57 57 (by decide)]) (fun q hq h62 h63 => ?_) (fun i hi => by rw [m5 i (by omega), e57 62 (by decide)]) (fun i hi => by rw [m7 i (by omega), e57 63 (by decide)])
          have hq2 : 57 ≤ q := by revert q; decide
          rw [m3 q (by simp only [List.mem_cons, List.not_mem_nil, or_false, not_or]; exact ⟨h62, h63⟩), e57 q hq2]
        · rw [e2 39 (by decide)]
          simp (disch := omega) only [bnp_ok, bnd_ok, lt_ok, c0, c1, c2, c3, nI_clamp, nI_neg, nI_ltI, nI_leI, nI_eq, lt_t, lt_f, le_t, le_f, eq_t, eq_f, or_true, true_or, or_false, false_or, if_true, if_false, not_true, not_false_iff, z0, o0, o1, and_true, true_and, and_false, false_and, wr_ap, upd_ap]
  · refine ⟨-1, S, S, a, ?_, ?_, Nxt_refl hG hX hM rfl⟩
    · rw [← l0, ← l1] at hb
      simp (disch := omega) only [bnp_ok, bnd_ok, lt_ok, c0, c1, c2, c3, nI_clamp, nI_neg, nI_ltI, nI_leI, nI_eq, lt_t, lt_f, le_t, le_f, eq_t, eq_f, or_true, true_or, or_false, false_or, if_true, if_false, not_true, not_false_iff, z0, o0, o1, and_true, true_and, and_false, false_and, fX_btw, hb]
    · rw [← l0, ← l1] at hb
      simp (disch := omega) only [bnp_ok, bnd_ok, lt_ok, c0, c1, c2, c3, nI_clamp, nI_neg, nI_ltI, nI_leI, nI_eq, lt_t, lt_f, le_t, le_f, eq_t, eq_f, or_true, true_or, or_false, false_or, if_true, if_false, not_true, not_false_iff, z0, o0, o1, and_true, true_and, and_false, false_and, fM_btw, hb]
/-- in how many lines a thing is -/
def wth (b : Bk) (i n : Nat) : Nat := fb_sm (fun k => bt2 (b.2 k).1 i) n
theorem wth_le (b : Bk) (i n : Nat) : wth b i n ≤ n := by
  have h := fb_sm_bound (f := fun k => bt2 (b.2 k).1 i) (c := 1) (n := n) (fun k _ => by have := bt2_lt (b.2 k).1 i; omega)
  unfold wth; omega
theorem f0_linesWith_ok {b : Bk} {S : Mem} {N i : Nat} (hN : 12 < N) (hX : XBk b S 15) (h12 : b.1 ≤ 12) (hs : ∀ k, k < b.1 → (b.2 k).1 < 8) (hi : i < 3) : f0_linesWith_15 N (nI i) S = some (nI (wth b i b.1)) := by
  obtain ⟨x1, x2⟩ := hX
  unfold f0_linesWith_15
  have h := lp_seq (f := fun t : Int32 × Int32 => f0_linesWith_15_L4 N (nI i) t.1 t.2 S) (fun k => (nI (wth b i k), nI k)) (r := nI (wth b i b.1)) (N := N) b.1 (fun k hk => ?_) ?_ (by omega)
  · have h2 : lp N (fun t : Int32 × Int32 => f0_linesWith_15_L4 N (nI i) t.1 t.2 S) ((0 : Int32), (0 : Int32)) = some (nI (wth b i b.1)) := h
    rw [h2, bnp_ok]
    rfl
  · dsimp only
    unfold f0_linesWith_15_L4 f0_setOf_15
    have hx := (x2 k hk).1
    have hs8 := hs k hk
    have e2 : wth b i (k + 1) = wth b i k + bt2 (b.2 k).1 i := fb_sm_succ _ _
    rw [x1, if_neg (nI_ge hk (by omega)), e2]
    simp (disch := omega) only [bnp_ok, bnd_ok, lt_ok, c0, c1, c2, c3, nI_clamp, nI_neg, nI_ltI, nI_leI, nI_eq, lt_t, lt_f, le_t, le_f, eq_t, eq_f, or_true, true_or, or_false, false_or, if_true, if_false, not_true, not_false_iff, z0, o0, o1, and_true, true_and, and_false, false_and, f5_get_in, hx, bit_nI, nI_add, nI_1]
  · dsimp only
    unfold f0_linesWith_15_L4
    rw [x1, if_pos (nI_le (Nat.le_refl _) (by omega))]
theorem M_with_ok {b : Bk} {S : Mem} {N i : Nat} {v1 v3 : Int32} (hN : 12 < N) (hX : MBk b S 0) (h12 : b.1 ≤ 12) (hs : ∀ k, k < b.1 → (b.2 k).1 < 8) (hi : i < 3) : lp N (fun s : Int32 × Int32 => f10_mark_L33 N v1 (nI i) v3 s.1 s.2 S) ((0 : Int32), (0 : Int32)) = some (nI (wth b i b.1)) := by
  obtain ⟨x1, x2⟩ := hX
  have h := lp_seq (f := fun t : Int32 × Int32 => f10_mark_L33 N v1 (nI i) v3 t.1 t.2 S) (fun k => (nI (wth b i k), nI k)) (r := nI (wth b i b.1)) (N := N) b.1 (fun k hk => ?_) ?_ (by omega)
  · exact h
  · dsimp only
    unfold f10_mark_L33
    have hx := (x2 k hk).1
    simp only [Nat.mul_zero, Nat.zero_add] at hx
    have hs8 := hs k hk
    have e2 : wth b i (k + 1) = wth b i k + bt2 (b.2 k).1 i := fb_sm_succ _ _
    rw [e2]
    simp (disch := omega) only [bnp_ok, bnd_ok, lt_ok, c0, c1, c2, c3, nI_clamp, nI_neg, nI_ltI, nI_leI, nI_eq, lt_t, lt_f, le_t, le_f, eq_t, eq_f, or_true, true_or, or_false, false_or, if_true, if_false, not_true, not_false_iff, z0, o0, o1, and_true, true_and, and_false, false_and, x1, l3, pk_mul, hx, bit_nI, nI_add, nI_1]
  · dsimp only
    unfold f10_mark_L33
    simp (disch := omega) only [bnp_ok, bnd_ok, lt_ok, c0, c1, c2, c3, nI_clamp, nI_neg, nI_ltI, nI_leI, nI_eq, lt_t, lt_f, le_t, le_f, eq_t, eq_f, or_true, true_or, or_false, false_or, if_true, if_false, not_true, not_false_iff, z0, o0, o1, and_true, true_and, and_false, false_and, x1]
theorem wrL_f1 (S : Mem) (k : Nat) (x : Int64) (q : Nat) : ((wrL S k x) q).1 = (S q).1 := by
  rw [wrL_ap]
  split
  · rename_i e; rw [e]
  · rfl
theorem XSc_L {T : Nat} {W : Nat → Nat} {O F : Nat} {S : Mem} {k : Nat} {x : Int64} (h : XSc T W O F S) : XSc T W O F (wrL S k x) := by unfold XSc; rw [wrL_f1, wrL_f1]; exact h
theorem XBk_L {b : Bk} {S : Mem} {q k : Nat} {x : Int64} (h : XBk b S q) : XBk b (wrL S k x) q := by unfold XBk; rw [wrL_f1, wrL_f1, wrL_f1, wrL_f1]; exact h
theorem f6_weightOf_ok {T : Nat} {W : Nat → Nat} {O F : Nat} {S : Mem} {N j : Nat} (hX : XSc T W O F S) (hT : T ≤ 3) (hj : j < T) : f6_weightOf_10 N (nI j) S = some (nI (W j)) := by
  unfold f6_weightOf_10
  rw [if_neg (show ¬ nI j = 3 from ne_nI (b := 3) (by omega) (by decide) (by omega)), f5_get_in (by omega) (by decide), bnp_ok, hX.2.1 j hj]
theorem tr_nxt {a : Ab} {S S1 S2 : Mem} {t : Int64} (hG : GA a) (hX : XA a S) (hM : MA a S) (h1 : S1 = wrL S 38 t) (h2 : S2 = wrL S1 57 t) : Nxt a (a.1, a.2.1, a.2.2.1, a.2.2.2.1, a.2.2.2.2.1, t) S S2 := by
  subst h1; subst h2
  refine ⟨hG, XA_tr hX ?_ (fun q hq h => ?_), MA_tr hM ?_ ?_ (fun q hq => ?_), Or.inr ⟨rfl, rfl, fun q hq => ?_⟩⟩
  · rw [wrL_ne _ _ _ (by decide), wrL_at]
  · have h2 : q ≠ 57 := by revert q; decide
    rw [wrL_ne _ _ _ h2, wrL_ne _ _ _ h]
  · rw [wrL_at]
  · rw [wrL_f1, wrL_f1]
  · have h2 : q ≠ 57 ∧ q ≠ 38 := by revert q; decide
    rw [wrL_ne _ _ _ h2.1, wrL_ne _ _ _ h2.2]
  · have h2 : q ≠ 57 ∧ q ≠ 38 := by revert q; decide
    rw [wrL_ne _ _ _ h2.1, wrL_ne _ _ _ h2.2]
theorem wrL_wrL (S : Mem) (k : Nat) (x y : Int64) : wrL (wrL S k x) k y = wrL S k y := by
  funext a
  by_cases h : a = k
  · subst h
    rw [wrL_at, wrL_at, wrL_at]
  · rw [wrL_ne _ _ _ h, wrL_ne _ _ _ h, wrL_ne _ _ _ h]
theorem l_add (x : Int64) (p q r : Int64) (h : p + q = r) : x + p + q = x + r := by rw [← h, Int64.add_assoc]
theorem asThing_ok {T : Nat} {W : Nat → Nat} {O F : Nat} {S : Mem} {N j : Nat} (hX : XSc T W O F S) (hT : T ≤ 3) (hj : j < T) : f2_asThing N (nI j) S = some (nI (W j), wrL S 38 ((S 38).2 + 1)) := by
  unfold f2_asThing
  rw [lt_ok, f6_weightOf_ok (XSc_L hX) hT hj, bnp_ok]
theorem asSack_ok {T : Nat} {W : Nat → Nat} {O F : Nat} {S : Mem} {N j : Nat} (hX : XSc T W O F S) (hT : T ≤ 3) (hj : j < T) : f2_asSack N (nI j) S = some (nI (W j) + nI O, wrL S 38 ((S 38).2 + 11)) := by
  unfold f2_asSack f6_own_10
  rw [lt_ok, asThing_ok (XSc_L hX) hT hj, bnd_ok, bnp_ok, (XSc_L (XSc_L hX)).2.2.1, wrL_wrL, wrL_at, l_add _ _ _ 11 rfl]
theorem asLead_ok {T : Nat} {W : Nat → Nat} {O F : Nat} {S : Mem} {N j : Nat} (hX : XSc T W O F S) (hT : T ≤ 3) (hj : j < T) : f2_asLead N (nI j) S = some (nI (W j) * 2, wrL S 38 ((S 38).2 + 101)) := by
  unfold f2_asLead
  rw [lt_ok, asThing_ok (XSc_L hX) hT hj, bnd_ok, wrL_wrL, wrL_at, l_add _ _ _ 101 rfl]
theorem op_mark {a : Ab} {S : Mem} {N : Nat} (hN : 12 < N) (hG : GA a) (hX : XA a S) (hM : MA a S) (kd i : Int32) : ∃ r S1 S2 a', f9_mark N kd i S = some (r, S1) ∧ f10_mark N kd i S1 = some (r, S2) ∧ Nxt a a' S S2 := by
  have hT := hG.2.1.1
  have hL := hG.2.2.1.1
  have hs8 : ∀ k, k < a.2.2.1.1 → (a.2.2.1.2 k).1 < 8 := fun k hk => sx_lt hT (hG.2.2.1.2 k hk).1
  have x1 := hX.2.1.1
  have m1 := hM.2.1.1
  have xt := hX.2.2.2.2.2
  have mt := hM.2.2.2.2.2
  unfold f9_mark f10_mark f6_things_10 f10_isThing
  rcases btw_lit (i := kd) (a := 0) (b := 5) (by decide) (by decide) with ⟨kd, -, hkd, rfl, hb⟩ | ⟨hne, hb⟩
  · rw [← l0, ← l5] at hb
    rcases btw_cnt (i := i) (T := a.2.1.1) (by omega) with ⟨j, hj, rfl, hc⟩ | ⟨hne, hc⟩
    · have mj := hM.2.1.2.1 j hj
      have mO := hM.2.1.2.2.1
      have mL := hM.2.2.1.1
      have XS := hX.2.1
      have key : ∀ (r : Int32) (t : Int64), f2_markAs N (nI kd) (nI j) S = some (r, wrL S 38 ((S 38).2 + t)) → f10_mark_b68 N (nI kd) (nI j) (nI (a.2.1.2.1 j)) (nI (wth a.2.2.1 j a.2.2.1.1)) (wrL S 38 ((S 38).2 + t)) = some (r, wrL (wrL S 38 ((S 38).2 + t)) 57 ((S 57).2 + t)) → ∃ r S1 S2 a', (bnp (f9_isBetween N (nI kd) 0 5 S) fun r1 => if r1 = 0 then some (-1000000, S) else bnp (some ((S 10).1 2)) fun r2 => bnp (f9_isBetween N (nI j) 0 (r2 - 1) S) fun r3 => if r3 = 0 then some (-1000000, S) else bnd (f2_markAs N (nI kd) (nI j) S) fun r4 S5 => some (r4, S5)) = some (r, S1) ∧ (bnp (f10_in N (nI kd) 0 5 S1) fun r1 => if r1 = 0 then some (-1000000, S1) else bnp (if (0 : Int32) < 0 ∨ 2 ≤ (0 : Int32).toNatClampNeg then none else lt_ ((S1 59).1 (0 : Int32).toNatClampNeg) fun x1 => bnp (f10_in N (nI j) 0 (x1 - 1) S1) fun r2 => if r2 = 0 ∨ r2 = 1 then some r2 else none) fun r2 => if r2 = 0 then some (-1000000, S1) else if nI j < 0 ∨ 8 ≤ (nI j).toNatClampNeg then none else lt_ ((S1 60).1 (nI j).toNatClampNeg) fun x3 => bnp (lp N (fun s : Int32 × Int32 => f10_mark_L33 N (nI kd) (nI j) x3 s.1 s.2 S1) ((0 : Int32), (0 : Int32))) fun z8 => f10_mark_b68 N (nI kd) (nI j) x3 z8 S1) = some (r, S2) ∧ Nxt a a' S S2 := by
        intro r t h1 h2
        have hMk : MA a (wrL S 38 ((S 38).2 + t)) := MA_keep hM (fun q hq => wrL_ne _ _ _ (by omega))
        refine ⟨r, wrL S 38 ((S 38).2 + t), wrL (wrL S 38 ((S 38).2 + t)) 57 ((S 57).2 + t), _, ?_, ?_, tr_nxt (t := (S 38).2 + t) hG hX hM rfl (by rw [xt, mt])⟩
        · simp (disch := omega) only [bnp_ok, bnd_ok, lt_ok, c0, c1, c2, c3, nI_clamp, nI_neg, nI_ltI, nI_leI, nI_eq, lt_t, lt_f, le_t, le_f, eq_t, eq_f, or_true, true_or, or_false, false_or, if_true, if_false, not_true, not_false_iff, z0, o0, o1, and_true, true_and, and_false, false_and, fX_btw, hb, x1, hc, h1]
        · have hw := M_with_ok (v1 := nI kd) (v3 := nI (a.2.1.2.1 j)) hN hMk.2.2.1 hL hs8 (show j < 3 by omega)
          simp (disch := omega) only [bnp_ok, bnd_ok, lt_ok, c0, c1, c2, c3, nI_clamp, nI_neg, nI_ltI, nI_leI, nI_eq, lt_t, lt_f, le_t, le_f, eq_t, eq_f, or_true, true_or, or_false, false_or, if_true, if_false, not_true, not_false_iff, z0, o0, o1, and_true, true_and, and_false, false_and, fM_btw, hb, wrL_f1, m1, hc, mj, hw, h2]
      rcases (show kd = 0 ∨ kd = 1 ∨ kd = 2 ∨ kd = 3 ∨ kd = 4 ∨ kd = 5 by omega) with rfl | rfl | rfl | rfl | rfl | rfl
      · refine key (nI (a.2.1.2.1 j)) 1 ?_ ?_
        · unfold f2_markAs
          rw [if_pos (show nI 0 = 0 from rfl), asThing_ok XS hT hj, bnd_ok]
        · unfold f10_mark_b68
          rw [if_pos (show nI 0 = 0 from rfl), lt_ok, wrL_ne _ _ _ (show 57 ≠ 38 by decide)]
      · refine key (nI (a.2.1.2.1 j) + nI a.2.1.2.2.1) 11 ?_ ?_
        · unfold f2_markAs
          rw [if_neg (show ¬ nI 1 = 0 by decide), if_pos (show nI 1 = 1 from rfl), asSack_ok XS hT hj, bnd_ok]
        · unfold f10_mark_b68
          rw [if_neg (show ¬ nI 1 = 0 by decide), if_pos (show nI 1 = 1 from rfl), lt_ok, wrL_ne _ _ _ (show 57 ≠ 38 by decide)]
          simp (disch := omega) only [bnp_ok, bnd_ok, lt_ok, c0, c1, c2, c3, nI_clamp, nI_neg, nI_ltI, nI_leI, nI_eq, lt_t, lt_f, le_t, le_f, eq_t, eq_f, or_true, true_or, or_false, false_or, if_true, if_false, not_true, not_false_iff, z0, o0, o1, and_true, true_and, and_false, false_and, n3_3, wrL_f1, mO]
      · refine key (nI (a.2.1.2.1 j) * 2) 101 ?_ ?_
        · unfold f2_markAs
          rw [if_neg (show ¬ nI 2 = 0 by decide), if_neg (show ¬ nI 2 = 1 by decide), if_pos (show nI 2 = 2 from rfl), asLead_ok XS hT hj, bnd_ok]
        · unfold f10_mark_b68
          rw [if_neg (show ¬ nI 2 = 0 by decide), if_neg (show ¬ nI 2 = 1 by decide), if_pos (show nI 2 = 2 from rfl), lt_ok, wrL_ne _ _ _ (show 57 ≠ 38 by decide), Int32.mul_comm]
      · refine key (nI (a.2.1.2.1 j) + nI a.2.1.2.2.1 - nI a.2.2.1.1) 1011 ?_ ?_
        · unfold f2_markAs f2_asFlour f0_lines_15
          rw [if_neg (show ¬ nI 3 = 0 by decide), if_neg (show ¬ nI 3 = 1 by decide), if_neg (show ¬ nI 3 = 2 by decide), if_pos (show nI 3 = 3 from rfl), lt_ok, asSack_ok (XSc_L XS) hT hj, bnd_ok, bnp_ok, bnd_ok, wrL_wrL, wrL_at, l_add _ _ _ 1011 rfl, wrL_f1, hX.2.2.1.1]
        · unfold f10_mark_b68
          rw [if_neg (show ¬ nI 3 = 0 by decide), if_neg (show ¬ nI 3 = 1 by decide), if_neg (show ¬ nI 3 = 2 by decide), if_pos (show nI 3 = 3 from rfl), lt_ok, wrL_ne _ _ _ (show 57 ≠ 38 by decide)]
          simp (disch := omega) only [bnp_ok, bnd_ok, lt_ok, c0, c1, c2, c3, nI_clamp, nI_neg, nI_ltI, nI_leI, nI_eq, lt_t, lt_f, le_t, le_f, eq_t, eq_f, or_true, true_or, or_false, false_or, if_true, if_false, not_true, not_false_iff, z0, o0, o1, and_true, true_and, and_false, false_and, n3_3, wrL_f1, mO, mL]
      · refine key (nI (a.2.1.2.1 j) * 2 + nI j) 10101 ?_ ?_
        · unfold f2_markAs f2_asGold
          rw [if_neg (show ¬ nI 4 = 0 by decide), if_neg (show ¬ nI 4 = 1 by decide), if_neg (show ¬ nI 4 = 2 by decide), if_neg (show ¬ nI 4 = 3 by decide), if_pos (show nI 4 = 4 from rfl), lt_ok, asLead_ok (XSc_L XS) hT hj, bnd_ok, bnd_ok, wrL_wrL, wrL_at, l_add _ _ _ 10101 rfl]
        · unfold f10_mark_b68
          rw [if_neg (show ¬ nI 4 = 0 by decide), if_neg (show ¬ nI 4 = 1 by decide), if_neg (show ¬ nI 4 = 2 by decide), if_neg (show ¬ nI 4 = 3 by decide), if_pos (show nI 4 = 4 from rfl), lt_ok, wrL_ne _ _ _ (show 57 ≠ 38 by decide), Int32.mul_comm]
      · refine key (nI (a.2.1.2.1 j) + nI (wth a.2.2.1 j a.2.2.1.1)) 100001 ?_ ?_
        · unfold f2_markAs f2_asBaby
          rw [if_neg (show ¬ nI 5 = 0 by decide), if_neg (show ¬ nI 5 = 1 by decide), if_neg (show ¬ nI 5 = 2 by decide), if_neg (show ¬ nI 5 = 3 by decide), if_neg (show ¬ nI 5 = 4 by decide), if_pos (show nI 5 = 5 from rfl), lt_ok, asThing_ok (XSc_L XS) hT hj, bnd_ok, f0_linesWith_ok hN (XBk_L (XBk_L hX.2.2.1)) hL hs8 (by omega), bnp_ok, bnd_ok, wrL_wrL, wrL_at, l_add _ _ _ 100001 rfl]
        · unfold f10_mark_b68
          rw [if_neg (show ¬ nI 5 = 0 by decide), if_neg (show ¬ nI 5 = 1 by decide), if_neg (show ¬ nI 5 = 2 by decide), if_neg (show ¬ nI 5 = 3 by decide), if_neg (show ¬ nI 5 = 4 by decide), lt_ok, wrL_ne _ _ _ (show 57 ≠ 38 by decide)]
    · refine ⟨-1000000, S, S, a, ?_, ?_, Nxt_refl hG hX hM rfl⟩
      · simp (disch := omega) only [bnp_ok, bnd_ok, lt_ok, c0, c1, c2, c3, nI_clamp, nI_neg, nI_ltI, nI_leI, nI_eq, lt_t, lt_f, le_t, le_f, eq_t, eq_f, or_true, true_or, or_false, false_or, if_true, if_false, not_true, not_false_iff, z0, o0, o1, and_true, true_and, and_false, false_and, fX_btw, hb, x1, hc]
      · simp (disch := omega) only [bnp_ok, bnd_ok, lt_ok, c0, c1, c2, c3, nI_clamp, nI_neg, nI_ltI, nI_leI, nI_eq, lt_t, lt_f, le_t, le_f, eq_t, eq_f, or_true, true_or, or_false, false_or, if_true, if_false, not_true, not_false_iff, z0, o0, o1, and_true, true_and, and_false, false_and, fM_btw, hb, m1, hc]
  · rw [← l0, ← l5] at hb
    refine ⟨-1000000, S, S, a, ?_, ?_, Nxt_refl hG hX hM rfl⟩
    · simp (disch := omega) only [bnp_ok, bnd_ok, lt_ok, c0, c1, c2, c3, nI_clamp, nI_neg, nI_ltI, nI_leI, nI_eq, lt_t, lt_f, le_t, le_f, eq_t, eq_f, or_true, true_or, or_false, false_or, if_true, if_false, not_true, not_false_iff, z0, o0, o1, and_true, true_and, and_false, false_and, fX_btw, hb]
    · simp (disch := omega) only [bnp_ok, bnd_ok, lt_ok, c0, c1, c2, c3, nI_clamp, nI_neg, nI_ltI, nI_leI, nI_eq, lt_t, lt_f, le_t, le_f, eq_t, eq_f, or_true, true_or, or_false, false_or, if_true, if_false, not_true, not_false_iff, z0, o0, o1, and_true, true_and, and_false, false_and, fM_btw, hb]
