/-! LOADS, THE BOOK -/
/-- bit i of s -/
def bt2 (s i : Nat) : Nat := s / 2 ^ i % 2
theorem bt2_lt (s i : Nat) : bt2 s i < 2 := Nat.mod_lt _ (by decide)
def ldw (W : Nat → Nat) (s : Nat) (T : Nat) : Nat := fb_sm (fun i => bt2 s i * W i) T
theorem ldw_le {W : Nat → Nat} {s T c : Nat} (h : ∀ i, i < T → W i ≤ c) : ldw W s T ≤ T * c := by
  refine fb_sm_bound (fun k hk => ?_)
  have h1 := bt2_lt s k
  have h2 := h k hk
  rcases (show bt2 s k = 0 ∨ bt2 s k = 1 by omega) with e | e <;> rw [e] <;> omega
theorem shr_nI {s i : Nat} (hs : s < 2 ^ 31) (hi : i < 31) : nI s >>> (nI i &&& 31) = nI (s / 2 ^ i) := pk_shrN hs (nI i &&& 31) i (s_l i (by omega))
theorem and1 {n : Nat} (h : n < 2 ^ 32) : nI n &&& (1 : Int32) = nI (n % 2) := pk_andN h 1 (by decide)
theorem bit_nI {s i : Nat} (hs : s < 2 ^ 31) (hi : i < 31) : (nI s >>> (nI i &&& 31)) &&& (1 : Int32) = nI (bt2 s i) := by
  rw [shr_nI hs hi, and1 (Nat.lt_of_le_of_lt (Nat.div_le_self _ _) (by omega))]
  rfl
theorem shl_nI {i : Nat} (hi : i < 31) : (1 : Int32) <<< (nI i &&& 31) = nI (2 ^ i) := by
  have h := pk_shlN (n := 1) (nI i &&& 31) i (s_l i (by omega)) (by rw [Nat.one_mul]; exact Nat.pow_lt_pow_right (by decide) (by omega))
  rw [Nat.one_mul] at h
  exact h
theorem pow3 {T : Nat} (h : T ≤ 3) : 2 ^ T ≤ 8 ∧ 1 ≤ 2 ^ T := by
  rcases (show T = 0 ∨ T = 1 ∨ T = 2 ∨ T = 3 by omega) with rfl | rfl | rfl | rfl <;> decide
theorem f6_loadOf_ok {T : Nat} {W : Nat → Nat} {O F : Nat} {S : Mem} {N s : Nat} (hX : XSc T W O F S) (hT : T ≤ 3) (hs : s < 2 ^ 31) (hN : 3 < N) : f6_loadOf_10 N (nI s) S = some (nI (ldw W s T)) := by
  obtain ⟨x1, x2, x3, x4⟩ := hX
  unfold f6_loadOf_10
  have h := lp_seq (f := fun t : Int32 × Int32 => f6_loadOf_10_L4 N (nI s) t.1 t.2 S) (fun i => (nI (ldw W s i), nI i)) (r := nI (ldw W s T)) (N := N) T (fun i hi => ?_) ?_ (by omega)
  · have h2 : lp N (fun t : Int32 × Int32 => f6_loadOf_10_L4 N (nI s) t.1 t.2 S) ((0 : Int32), (0 : Int32)) = some (nI (ldw W s T)) := h
    rw [h2, bnp_ok]
    rfl
  · dsimp only
    unfold f6_loadOf_10_L4 f6_loadOf_10_b32
    have hx := x2 i hi
    have hb := bt2_lt s i
    rw [x1, if_neg (nI_ge hi (by omega)), bit_nI hs (by omega)]
    rcases (show bt2 s i = 0 ∨ bt2 s i = 1 by omega) with e | e
    · have e2 : ldw W s (i + 1) = ldw W s i := by unfold ldw; rw [fb_sm_succ, e]; omega
      rw [e, e2]
      simp (disch := omega) only [bnp_ok, bnd_ok, lt_ok, c0, c1, c2, c3, nI_clamp, nI_neg, nI_ltI, nI_leI, nI_eq, lt_t, lt_f, le_t, le_f, eq_t, eq_f, or_true, true_or, or_false, false_or, if_true, if_false, not_true, not_false_iff, z0, o0, o1, and_true, true_and, and_false, false_and, l1, nI_add]
    · have e2 : ldw W s (i + 1) = ldw W s i + W i := by unfold ldw; rw [fb_sm_succ, e]; omega
      rw [e, e2]
      simp (disch := omega) only [bnp_ok, bnd_ok, lt_ok, c0, c1, c2, c3, nI_clamp, nI_neg, nI_ltI, nI_leI, nI_eq, lt_t, lt_f, le_t, le_f, eq_t, eq_f, or_true, true_or, or_false, false_or, if_true, if_false, not_true, not_false_iff, z0, o0, o1, and_true, true_and, and_false, false_and, l1, f5_get_in, hx, nI_add]
  · dsimp only
    unfold f6_loadOf_10_L4
    rw [x1, if_pos (nI_le (Nat.le_refl _) (by omega))]
theorem f10_trueSum_ok {T : Nat} {W : Nat → Nat} {O F : Nat} {S : Mem} {N s : Nat} (hX : MSc T W O F S) (hT : T ≤ 3) (hs : s < 2 ^ 31) (hN : 3 < N) : f10_trueSum N (nI s) S = some (nI (O + ldw W s T)) := by
  obtain ⟨x1, x2, x3, x4⟩ := hX
  unfold f10_trueSum
  simp (disch := omega) only [bnp_ok, bnd_ok, lt_ok, c0, c1, c2, c3, nI_clamp, nI_neg, nI_ltI, nI_leI, nI_eq, lt_t, lt_f, le_t, le_f, eq_t, eq_f, or_true, true_or, or_false, false_or, if_true, if_false, not_true, not_false_iff, z0, o0, o1, and_true, true_and, and_false, false_and, x3, n3_3]
  have h := lp_seq (f := fun t : Int32 × Int32 => f10_trueSum_L9 N (nI s) t.1 t.2 S) (fun i => (nI (O + ldw W s i), nI i)) (r := nI (O + ldw W s T)) (N := N) T (fun i hi => ?_) ?_ (by omega)
  · have h2 : lp N (fun t : Int32 × Int32 => f10_trueSum_L9 N (nI s) t.1 t.2 S) (nI O, (0 : Int32)) = some (nI (O + ldw W s T)) := h
    rw [h2, bnp_ok]
    rfl
  · dsimp only
    unfold f10_trueSum_L9 f10_trueSum_b39
    have hx := x2 i hi
    have hb := bt2_lt s i
    rw [bit_nI hs (by omega)]
    rcases (show bt2 s i = 0 ∨ bt2 s i = 1 by omega) with e | e
    · have e2 : ldw W s (i + 1) = ldw W s i + 0 := by unfold ldw; rw [fb_sm_succ, e]; omega
      rw [e, e2]
      simp (disch := omega) only [bnp_ok, bnd_ok, lt_ok, c0, c1, c2, c3, nI_clamp, nI_neg, nI_ltI, nI_leI, nI_eq, lt_t, lt_f, le_t, le_f, eq_t, eq_f, or_true, true_or, or_false, false_or, if_true, if_false, not_true, not_false_iff, z0, o0, o1, and_true, true_and, and_false, false_and, x1, l1, l0, nI_add, Nat.add_zero]
    · have e2 : ldw W s (i + 1) = ldw W s i + W i := by unfold ldw; rw [fb_sm_succ, e]; omega
      rw [e, e2]
      simp (disch := omega) only [bnp_ok, bnd_ok, lt_ok, c0, c1, c2, c3, nI_clamp, nI_neg, nI_ltI, nI_leI, nI_eq, lt_t, lt_f, le_t, le_f, eq_t, eq_f, or_true, true_or, or_false, false_or, if_true, if_false, not_true, not_false_iff, z0, o0, o1, and_true, true_and, and_false, false_and, x1, l1, hx, nI_add, Nat.add_assoc]
  · dsimp only
    unfold f10_trueSum_L9
    simp (disch := omega) only [bnp_ok, bnd_ok, lt_ok, c0, c1, c2, c3, nI_clamp, nI_neg, nI_ltI, nI_leI, nI_eq, lt_t, lt_f, le_t, le_f, eq_t, eq_f, or_true, true_or, or_false, false_or, if_true, if_false, not_true, not_false_iff, z0, o0, o1, and_true, true_and, and_false, false_and, x1]
theorem f6_leftOver_ok {T : Nat} {W : Nat → Nat} {O F : Nat} {S : Mem} {N m : Nat} (hX : XSc T W O F S) (hF : 2 ≤ F ∧ F ≤ 20) (hm : m < 2 ^ 31) : f6_leftOver_10 N (nI m) S = some (nI (m % F)) := by
  obtain ⟨x1, x2, x3, x4⟩ := hX
  unfold f6_leftOver_10
  rw [x4, if_pos (show (1 : Int32) ≤ nI F from nI_le (a := 1) (by omega) (by omega)), if_neg (show ¬ nI F = 0 from ne_nI (b := 0) (by omega) (by decide) (by omega)), pk_rem hm (by omega) (by omega)]
theorem f6_sets_ok {T : Nat} {W : Nat → Nat} {O F : Nat} {S : Mem} {N : Nat} (hX : XSc T W O F S) (hT : T ≤ 3) : f6_sets_10 N S = some (nI (2 ^ T)) := by
  unfold f6_sets_10
  rw [hX.1, shl_nI (by omega)]
/-- sets -/
theorem X_isSet {T : Nat} {W : Nat → Nat} {O F : Nat} {S : Mem} {N : Nat} (hX : XSc T W O F S) (hT : T ≤ 3) (i : Int32) : f9_isSet N i S = some (btw i 0 (nI (2 ^ T) - 1)) := by
  unfold f9_isSet
  rw [f6_sets_ok hX hT, bnp_ok, fX_btw, bnp_ok, if_pos (btw_01 _ _ _)]
theorem M_isSet {T : Nat} {W : Nat → Nat} {O F : Nat} {S : Mem} {N : Nat} (hX : MSc T W O F S) (hT : T ≤ 3) (i : Int32) : f10_isSet N i S = some (btw i 0 (nI (2 ^ T) - 1)) := by
  unfold f10_isSet
  simp (disch := omega) only [bnp_ok, bnd_ok, lt_ok, c0, c1, c2, c3, nI_clamp, nI_neg, nI_ltI, nI_leI, nI_eq, lt_t, lt_f, le_t, le_f, eq_t, eq_f, or_true, true_or, or_false, false_or, if_true, if_false, not_true, not_false_iff, z0, o0, o1, and_true, true_and, and_false, false_and, hX.1, fM_btw]
  rw [shl_nI (by omega), if_pos (btw_01 _ _ _)]
theorem X_isLine {b : Bk} {S : Mem} {N : Nat} (hX : XBk b S 15) (i : Int32) : f9_isLine N i S = some (btw i 0 (nI b.1 - 1)) := by
  unfold f9_isLine f0_lines_15
  rw [bnp_ok, fX_btw, bnp_ok, if_pos (btw_01 _ _ _), hX.1]
theorem M_isLine {b : Bk} {S : Mem} {N : Nat} (hX : MBk b S 0) (i : Int32) : f10_isLine N i S = some (btw i 0 (nI b.1 - 1)) := by
  unfold f10_isLine
  simp (disch := omega) only [bnp_ok, bnd_ok, lt_ok, c0, c1, c2, c3, nI_clamp, nI_neg, nI_ltI, nI_leI, nI_eq, lt_t, lt_f, le_t, le_f, eq_t, eq_f, or_true, true_or, or_false, false_or, if_true, if_false, not_true, not_false_iff, z0, o0, o1, and_true, true_and, and_false, false_and, hX.1, fM_btw]
  rw [if_pos (btw_01 _ _ _)]
/-- a line more -/
def addB (b : Bk) (x : Nat × Nat × Nat) : Bk := (b.1 + 1, fun k => if k = b.1 then x else b.2 k)
theorem f0_add_ok {b : Bk} {S : Mem} {N s w u : Nat} (hX : XBk b S 15) (hb : b.1 < 12) : ∃ S', f0_add_15 N (nI s) (nI w) (nI u) S = some ((), S') ∧ XBk (addB b (s, w, u)) S' 15 ∧ ∀ q, q ∉ [15, 17, 19, 21] → S' q = S q := by
  obtain ⟨x1, x2⟩ := hX
  have hlt : nI b.1 < (12 : Int32) := nI_lt (b := 12) hb (by decide)
  refine ⟨wr (wr (wr (wr S 17 b.1 (nI s)) 19 b.1 (nI w)) 21 b.1 (nI u)) 15 3 (nI (b.1 + 1)), ?_, ⟨?_, fun k hk => ?_⟩, fun q hq => ?_⟩
  · unfold f0_add_15 f0_isFull_15
    simp (disch := omega) only [bnp_ok, bnd_ok, lt_ok, c0, c1, c2, c3, nI_clamp, nI_neg, nI_ltI, nI_leI, nI_eq, lt_t, lt_f, le_t, le_f, eq_t, eq_f, or_true, true_or, or_false, false_or, if_true, if_false, not_true, not_false_iff, z0, o0, o1, and_true, true_and, and_false, false_and, x1, if_pos hlt, f5_put_in, wr_ap, nI_1]
  · simp (disch := omega) only [bnp_ok, bnd_ok, lt_ok, c0, c1, c2, c3, nI_clamp, nI_neg, nI_ltI, nI_leI, nI_eq, lt_t, lt_f, le_t, le_f, eq_t, eq_f, or_true, true_or, or_false, false_or, if_true, if_false, not_true, not_false_iff, z0, o0, o1, and_true, true_and, and_false, false_and, wr_ap, upd_ap, addB]
  · have hk : k < b.1 + 1 := hk
    by_cases e : k = b.1
    · simp (disch := omega) only [bnp_ok, bnd_ok, lt_ok, c0, c1, c2, c3, nI_clamp, nI_neg, nI_ltI, nI_leI, nI_eq, lt_t, lt_f, le_t, le_f, eq_t, eq_f, or_true, true_or, or_false, false_or, if_true, if_false, not_true, not_false_iff, z0, o0, o1, and_true, true_and, and_false, false_and, wr_ap, upd_ap, addB, e]
    · have h2 := x2 k (by omega)
      simp (disch := omega) only [bnp_ok, bnd_ok, lt_ok, c0, c1, c2, c3, nI_clamp, nI_neg, nI_ltI, nI_leI, nI_eq, lt_t, lt_f, le_t, le_f, eq_t, eq_f, or_true, true_or, or_false, false_or, if_true, if_false, not_true, not_false_iff, z0, o0, o1, and_true, true_and, and_false, false_and, wr_ap, upd_ap, addB, e, Nat.reduceAdd]
      exact h2
  · simp only [List.mem_cons, List.not_mem_nil, or_false, not_or] at hq
    simp (disch := omega) only [bnp_ok, bnd_ok, lt_ok, c0, c1, c2, c3, nI_clamp, nI_neg, nI_ltI, nI_leI, nI_eq, lt_t, lt_f, le_t, le_f, eq_t, eq_f, or_true, true_or, or_false, false_or, if_true, if_false, not_true, not_false_iff, z0, o0, o1, and_true, true_and, and_false, false_and, wr_ap, hq.1, hq.2.1, hq.2.2.1, hq.2.2.2]
theorem M_put_ok {b : Bk} {S : Mem} {N s w u : Nat} (hX : MBk b S 0) (hb : b.1 < 12) : ∃ S', f10_put N (nI s) (nI w) (nI u) S = some ((), S') ∧ MBk (addB b (s, w, u)) S' 0 ∧ (∀ q, q ∉ [62, 63] → S' q = S q) ∧ (∀ i, 1 ≤ i → (S' 62).1 i = (S 62).1 i) ∧ ∀ i, 36 ≤ i → (S' 63).1 i = (S 63).1 i := by
  obtain ⟨x1, x2⟩ := hX
  refine ⟨wr (wr (wr (wr S 63 (3 * b.1) (nI s)) 63 (3 * b.1 + 1) (nI w)) 63 (3 * b.1 + 2) (nI u)) 62 0 (nI (b.1 + 1)), ?_, ⟨?_, fun k hk => ?_⟩, fun q hq => ?_, fun i hi => ?_, fun i hi => ?_⟩
  · unfold f10_put
    simp (disch := omega) only [bnp_ok, bnd_ok, lt_ok, c0, c1, c2, c3, nI_clamp, nI_neg, nI_ltI, nI_leI, nI_eq, lt_t, lt_f, le_t, le_f, eq_t, eq_f, or_true, true_or, or_false, false_or, if_true, if_false, not_true, not_false_iff, z0, o0, o1, and_true, true_and, and_false, false_and, x1, wr_ap, l3, l2, l1, pk_mul, nI_add]
  · simp (disch := omega) only [bnp_ok, bnd_ok, lt_ok, c0, c1, c2, c3, nI_clamp, nI_neg, nI_ltI, nI_leI, nI_eq, lt_t, lt_f, le_t, le_f, eq_t, eq_f, or_true, true_or, or_false, false_or, if_true, if_false, not_true, not_false_iff, z0, o0, o1, and_true, true_and, and_false, false_and, wr_ap, upd_ap, addB]
  · have hk : k < b.1 + 1 := hk
    by_cases e : k = b.1
    · simp (disch := omega) only [bnp_ok, bnd_ok, lt_ok, c0, c1, c2, c3, nI_clamp, nI_neg, nI_ltI, nI_leI, nI_eq, lt_t, lt_f, le_t, le_f, eq_t, eq_f, or_true, true_or, or_false, false_or, if_true, if_false, not_true, not_false_iff, z0, o0, o1, and_true, true_and, and_false, false_and, wr_ap, upd_ap, addB, e, Nat.mul_zero, Nat.zero_add]
    · have h2 := x2 k (by omega)
      simp only [Nat.mul_zero, Nat.zero_add] at h2
      simp (disch := omega) only [bnp_ok, bnd_ok, lt_ok, c0, c1, c2, c3, nI_clamp, nI_neg, nI_ltI, nI_leI, nI_eq, lt_t, lt_f, le_t, le_f, eq_t, eq_f, or_true, true_or, or_false, false_or, if_true, if_false, not_true, not_false_iff, z0, o0, o1, and_true, true_and, and_false, false_and, wr_ap, upd_ap, addB, e, Nat.mul_zero, Nat.zero_add]
      exact h2
  · simp only [List.mem_cons, List.not_mem_nil, or_false, not_or] at hq
    simp (disch := omega) only [bnp_ok, bnd_ok, lt_ok, c0, c1, c2, c3, nI_clamp, nI_neg, nI_ltI, nI_leI, nI_eq, lt_t, lt_f, le_t, le_f, eq_t, eq_f, or_true, true_or, or_false, false_or, if_true, if_false, not_true, not_false_iff, z0, o0, o1, and_true, true_and, and_false, false_and, wr_ap, hq.1, hq.2]
  · simp (disch := omega) only [bnp_ok, bnd_ok, lt_ok, c0, c1, c2, c3, nI_clamp, nI_neg, nI_ltI, nI_leI, nI_eq, lt_t, lt_f, le_t, le_f, eq_t, eq_f, or_true, true_or, or_false, false_or, if_true, if_false, not_true, not_false_iff, z0, o0, o1, and_true, true_and, and_false, false_and, wr_ap, upd_ap]
  · simp (disch := omega) only [bnp_ok, bnd_ok, lt_ok, c0, c1, c2, c3, nI_clamp, nI_neg, nI_ltI, nI_leI, nI_eq, lt_t, lt_f, le_t, le_f, eq_t, eq_f, or_true, true_or, or_false, false_or, if_true, if_false, not_true, not_false_iff, z0, o0, o1, and_true, true_and, and_false, false_and, wr_ap, upd_ap]
theorem f8_forget_ok (N : Nat) (S : Mem) : f8_forget N S = some ((), wr S 39 7 0) := rfl
theorem GA_add {a : Ab} {s w u : Nat} (hG : GA a) (hb : a.2.2.1.1 < 12) (hs : s < 2 ^ a.2.1.1) (hw : w < a.2.1.2.2.2) (hu : u ≤ 2) : GA (a.1, a.2.1, addB a.2.2.1 (s, w, u), a.2.2.2) := by
  obtain ⟨h1, h2, h3, h4⟩ := hG
  refine ⟨h1, h2, ⟨hb, fun k hk => ?_⟩, h4⟩
  have hk : k < a.2.2.1.1 + 1 := hk
  by_cases e : k = a.2.2.1.1
  · simp only [addB, e, if_true]
    exact ⟨hs, hw, hu⟩
  · simp only [addB, e, if_false]
    exact h3.2 k (by omega)
/-- a line more, on both sides -/
theorem add_both {a : Ab} {S : Mem} {N s w u : Nat} (hG : GA a) (hX : XA a S) (hM : MA a S) (hb : a.2.2.1.1 < 12) (hs : s < 2 ^ a.2.1.1) (hw : w < a.2.1.2.2.2) (hu : u ≤ 2) : ∃ S1 S2, f0_add_15 N (nI s) (nI w) (nI u) S = some ((), S1) ∧ f10_put N (nI s) (nI w) (nI u) (wr S1 39 7 0) = some ((), S2) ∧ Nxt a (a.1, a.2.1, addB a.2.2.1 (s, w, u), a.2.2.2) S S2 ∧ (S1 15).1 3 = nI (a.2.2.1.1 + 1) ∧ (S2 62).1 0 = nI (a.2.2.1.1 + 1) ∧ ∀ q, 57 ≤ q → S1 q = S q := by
  obtain ⟨S1, h1, h2, h3⟩ := f0_add_ok (N := N) (s := s) (w := w) (u := u) hX.2.2.1 hb
  have e1 : ∀ q, 57 ≤ q → (wr S1 39 7 0) q = S q := fun q hq => by
    rw [wr_ne _ _ _ _ (by omega), h3 q (by simp only [List.mem_cons, List.not_mem_nil, or_false, not_or]; omega)]
  have hM1 := MA_keep hM e1
  obtain ⟨S2, k1, k2, k3, k4, k5⟩ := M_put_ok (N := N) (s := s) (w := w) (u := u) hM1.2.2.1 hb
  have e2 : ∀ q, q < 57 → S2 q = (wr S1 39 7 0) q := fun q hq => k3 q (by simp only [List.mem_cons, List.not_mem_nil, or_false, not_or]; omega)
  refine ⟨S1, S2, h1, k1, ⟨GA_add hG hb hs hw hu, ?_, ?_, Or.inl ?_⟩, h2.1, k2.1, fun q hq => h3 q (by simp only [List.mem_cons, List.not_mem_nil, or_false, not_or]; omega)⟩
  · refine XA_bk hX ?_ (fun q hq hn => ?_)
    · exact XBk_eq (S := S1) h2 (by rw [e2 _ (by decide), wr_ne _ _ _ _ (by decide)]) (by rw [e2 _ (by decide), wr_ne _ _ _ _ (by decide)]) (by rw [e2 _ (by decide), wr_ne _ _ _ _ (by decide)]) (by rw [e2 _ (by decide), wr_ne _ _ _ _ (by decide)])
    · have hq2 : q < 57 ∧ q ≠ 39 := by revert q; decide
      rw [e2 q hq2.1, wr_ne _ _ _ _ hq2.2, h3 q hn]
  · refine MA_bk hG hM k2 (by rw [k3 57 (by decide), e1 57 (by decide)]) (fun q hq h62 h63 => ?_) (fun i hi => by rw [k4 i hi, e1 62 (by decide)]) (fun i hi => by rw [k5 i hi, e1 63 (by decide)])
    have hq2 : 57 ≤ q := by revert q; decide
    rw [k3 q (by simp only [List.mem_cons, List.not_mem_nil, or_false, not_or]; exact ⟨h62, h63⟩), e1 q hq2]
  · rw [e2 39 (by decide)]
    simp (disch := omega) only [bnp_ok, bnd_ok, lt_ok, c0, c1, c2, c3, nI_clamp, nI_neg, nI_ltI, nI_leI, nI_eq, lt_t, lt_f, le_t, le_f, eq_t, eq_f, or_true, true_or, or_false, false_or, if_true, if_false, not_true, not_false_iff, z0, o0, o1, and_true, true_and, and_false, false_and, wr_ap, upd_ap]
theorem Nxt_refl {a : Ab} {S S' : Mem} (hG : GA a) (hX : XA a S) (hM : MA a S) (e : S' = S) : Nxt a a S S' := by
  subst e
  exact ⟨hG, hX, hM, Or.inr ⟨rfl, rfl, fun _ _ => rfl⟩⟩
theorem sx_lt {s T : Nat} (hT : T ≤ 3) (hs : s < 2 ^ T) : s < 8 := Nat.lt_of_lt_of_le hs (pow3 hT).1
theorem op_tell {a : Ab} {S : Mem} {N : Nat} (hG : GA a) (hX : XA a S) (hM : MA a S) (s w u : Int32) : ∃ r S1 S2 a', f9_tell N s w u S = some (r, S1) ∧ f10_tell N s w u S1 = some (r, S2) ∧ Nxt a a' S S2 := by
  have hT := hG.2.1.1
  have hF := hG.2.1.2.2.2
  have hL := hG.2.2.1.1
  have p3 := pow3 hT
  have x1 := hX.2.1.2.2.2
  have x2 := hX.2.2.1.1
  have m1 := hM.2.1.2.2.2
  have m2 := hM.2.2.1.1
  unfold f9_tell f10_tell f6_figures_10 f0_isFull_15
  rcases btw_cnt (i := s) (T := 2 ^ a.2.1.1) (by omega) with ⟨s, hs, rfl, hb⟩ | ⟨-, hb⟩
  · rcases btw_cnt (i := w) (T := a.2.1.2.2.2) (by omega) with ⟨w, hw, rfl, hc⟩ | ⟨-, hc⟩
    · rcases btw_lit (i := u) (a := 0) (b := 2) (by decide) (by decide) with ⟨u, -, hu, rfl, hd⟩ | ⟨-, hd⟩
      · by_cases hb12 : a.2.2.1.1 = 12
        · refine ⟨-3, S, S, a, ?_, ?_, Nxt_refl hG hX hM rfl⟩
          · have hlt : ¬ nI a.2.2.1.1 < (12 : Int32) := nI_nlt (b := 12) (by omega) (by omega)
            rw [← l0, ← l2] at hd
            simp (disch := omega) only [bnp_ok, bnd_ok, lt_ok, c0, c1, c2, c3, nI_clamp, nI_neg, nI_ltI, nI_leI, nI_eq, lt_t, lt_f, le_t, le_f, eq_t, eq_f, or_true, true_or, or_false, false_or, if_true, if_false, not_true, not_false_iff, z0, o0, o1, and_true, true_and, and_false, false_and, X_isSet hX.2.1 hT, hb, fX_btw, x1, hc, hd, x2, if_neg hlt]
          · rw [← l0, ← l2] at hd
            have he : nI a.2.2.1.1 = (12 : Int32) := by rw [hb12]; rfl
            simp (disch := omega) only [bnp_ok, bnd_ok, lt_ok, c0, c1, c2, c3, nI_clamp, nI_neg, nI_ltI, nI_leI, nI_eq, lt_t, lt_f, le_t, le_f, eq_t, eq_f, or_true, true_or, or_false, false_or, if_true, if_false, not_true, not_false_iff, z0, o0, o1, and_true, true_and, and_false, false_and, M_isSet hM.2.1 hT, hb, fM_btw, m1, hc, hd, m2, he]
        · have hlt : nI a.2.2.1.1 < (12 : Int32) := nI_lt (b := 12) (by omega) (by decide)
          have hne : ¬ nI a.2.2.1.1 = (12 : Int32) := ne_nI (b := 12) (by omega) (by decide) hb12
          obtain ⟨S1, S2, h1, h2, h3, h4, h5, h6⟩ := add_both (N := N) hG hX hM (by omega) hs hw hu
          have e62 : (wr S1 39 7 0) 62 = S 62 := by rw [wr_ne _ _ _ _ (by decide), h6 62 (by decide)]
          have e61 : (wr S1 39 7 0) 61 = S 61 := by rw [wr_ne _ _ _ _ (by decide), h6 61 (by decide)]
          have hMk : MA a (wr S1 39 7 0) := MA_keep hM (fun q hq => by rw [wr_ne _ _ _ _ (by omega), h6 q hq])
          refine ⟨nI (a.2.2.1.1 + 1), wr S1 39 7 0, S2, _, ?_, ?_, h3⟩
          · rw [← l0, ← l2] at hd
            simp (disch := omega) only [bnp_ok, bnd_ok, lt_ok, c0, c1, c2, c3, nI_clamp, nI_neg, nI_ltI, nI_leI, nI_eq, lt_t, lt_f, le_t, le_f, eq_t, eq_f, or_true, true_or, or_false, false_or, if_true, if_false, not_true, not_false_iff, z0, o0, o1, and_true, true_and, and_false, false_and, X_isSet hX.2.1 hT, hb, fX_btw, x1, hc, hd, x2, if_pos hlt, h1, f8_forget_ok, f0_lines_15, wr_ap, h4]
          · rw [← l0, ← l2] at hd
            simp (disch := omega) only [bnp_ok, bnd_ok, lt_ok, c0, c1, c2, c3, nI_clamp, nI_neg, nI_ltI, nI_leI, nI_eq, lt_t, lt_f, le_t, le_f, eq_t, eq_f, or_true, true_or, or_false, false_or, if_true, if_false, not_true, not_false_iff, z0, o0, o1, and_true, true_and, and_false, false_and, M_isSet hMk.2.1 hT, hb, fM_btw, e61, m1, hc, hd, e62, m2, hne, h2, h5]
      · refine ⟨-1, S, S, a, ?_, ?_, Nxt_refl hG hX hM rfl⟩
        · rw [← l0, ← l2] at hd
          simp (disch := omega) only [bnp_ok, bnd_ok, lt_ok, c0, c1, c2, c3, nI_clamp, nI_neg, nI_ltI, nI_leI, nI_eq, lt_t, lt_f, le_t, le_f, eq_t, eq_f, or_true, true_or, or_false, false_or, if_true, if_false, not_true, not_false_iff, z0, o0, o1, and_true, true_and, and_false, false_and, X_isSet hX.2.1 hT, hb, fX_btw, x1, hc, hd]
        · rw [← l0, ← l2] at hd
          simp (disch := omega) only [bnp_ok, bnd_ok, lt_ok, c0, c1, c2, c3, nI_clamp, nI_neg, nI_ltI, nI_leI, nI_eq, lt_t, lt_f, le_t, le_f, eq_t, eq_f, or_true, true_or, or_false, false_or, if_true, if_false, not_true, not_false_iff, z0, o0, o1, and_true, true_and, and_false, false_and, M_isSet hM.2.1 hT, hb, fM_btw, m1, hc, hd]
    · refine ⟨-1, S, S, a, ?_, ?_, Nxt_refl hG hX hM rfl⟩
      · simp (disch := omega) only [bnp_ok, bnd_ok, lt_ok, c0, c1, c2, c3, nI_clamp, nI_neg, nI_ltI, nI_leI, nI_eq, lt_t, lt_f, le_t, le_f, eq_t, eq_f, or_true, true_or, or_false, false_or, if_true, if_false, not_true, not_false_iff, z0, o0, o1, and_true, true_and, and_false, false_and, X_isSet hX.2.1 hT, hb, fX_btw, x1, hc]
      · simp (disch := omega) only [bnp_ok, bnd_ok, lt_ok, c0, c1, c2, c3, nI_clamp, nI_neg, nI_ltI, nI_leI, nI_eq, lt_t, lt_f, le_t, le_f, eq_t, eq_f, or_true, true_or, or_false, false_or, if_true, if_false, not_true, not_false_iff, z0, o0, o1, and_true, true_and, and_false, false_and, M_isSet hM.2.1 hT, hb, fM_btw, m1, hc]
  · refine ⟨-1, S, S, a, ?_, ?_, Nxt_refl hG hX hM rfl⟩
    · simp (disch := omega) only [bnp_ok, bnd_ok, lt_ok, c0, c1, c2, c3, nI_clamp, nI_neg, nI_ltI, nI_leI, nI_eq, lt_t, lt_f, le_t, le_f, eq_t, eq_f, or_true, true_or, or_false, false_or, if_true, if_false, not_true, not_false_iff, z0, o0, o1, and_true, true_and, and_false, false_and, X_isSet hX.2.1 hT, hb]
    · simp (disch := omega) only [bnp_ok, bnd_ok, lt_ok, c0, c1, c2, c3, nI_clamp, nI_neg, nI_ltI, nI_leI, nI_eq, lt_t, lt_f, le_t, le_f, eq_t, eq_f, or_true, true_or, or_false, false_or, if_true, if_false, not_true, not_false_iff, z0, o0, o1, and_true, true_and, and_false, false_and, M_isSet hM.2.1 hT, hb]
