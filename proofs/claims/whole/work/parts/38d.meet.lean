def cK (g : Nat → Nat) (K : Nat) : Nat := fb_sm (fun j => g (uk j)) K
theorem cK_succ (g : Nat → Nat) (K : Nat) : cK g (K + 1) = cK g K + g (uk K) := fb_sm_succ _ _
def gA (T F : Nat) (b : Bk) : Nat → Nat := fun x => if lf T F b x = true then 1 else 0
def gW (T F : Nat) (b : Bk) (i w : Nat) : Nat → Nat := fun x => if lf T F b x = true ∧ dg x i = w then 1 else 0
def gL (T F : Nat) (b : Bk) (l : Nat) : Nat → Nat := fun x => if lf T F b x = true ∧ pop (lau F b x) = l then 1 else 0
def gU (T F : Nat) (b : Bk) (k l : Nat) : Nat → Nat := fun x => if lf T F b x = true ∧ pop (lau F b x) = l then bt2 (lau F b x) k else 0
def foK (T F : Nat) (b : Bk) (K : Nat) : Nat × Nat := fo (fun j => vd T (uk j)) (fun j => mis F b (uk j)) K
/-- the tables when the keys below K are met -/
def TK (T F : Nat) (b : Bk) (K : Nat) (S : Mem) : Prop := (S 39).1 7 = 1 ∧ (S 39).1 8 = nI (cK (gA T F b) K) ∧ (S 39).1 9 = nI (foK T F b K).1 ∧ (S 39).1 10 = nI (foK T F b K).2 ∧ (∀ y, y < 10000 → ((S 43).1 (y / 32)).toBitVec.getLsbD (y % 32) = (lf T F b y && decide (ky y < K))) ∧ (∀ i w, i < 4 → w < 10 → (S 45).1 (i * 10 + w) = nI (cK (gW T F b i w) K)) ∧ (∀ l, l < 13 → (S 47).1 l = nI (cK (gL T F b l) K)) ∧ (∀ k l, k < 12 → l < 13 → (S 49).1 (k * 13 + l) = nI (cK (gU T F b k l) K))
theorem TK_eq {T F K : Nat} {b : Bk} {S S' : Mem} (h : TK T F b K S) (e : ∀ q, q ∈ [39, 43, 45, 47, 49] → S' q = S q) : TK T F b K S' := by
  unfold TK
  rw [e 39 (by decide), e 43 (by decide), e 45 (by decide), e 47 (by decide), e 49 (by decide)]
  exact h
theorem lf_vd {T F x : Nat} {b : Bk} (h : vd T x = false) : lf T F b x = false := by
  unfold lf
  rw [h, Bool.false_and]
/-- nothing left at K: the tables stay -/
theorem cK_no {T F K : Nat} {b : Bk} (h : lf T F b (uk K) = false) : (cK (gA T F b) (K + 1) = cK (gA T F b) K) ∧ (∀ i w, cK (gW T F b i w) (K + 1) = cK (gW T F b i w) K) ∧ (∀ l, cK (gL T F b l) (K + 1) = cK (gL T F b l) K) ∧ ∀ k l, cK (gU T F b k l) (K + 1) = cK (gU T F b k l) K := by
  refine ⟨?_, fun i w => ?_, fun l => ?_, fun k l => ?_⟩ <;> rw [cK_succ] <;> simp only [gA, gW, gL, gU, h, Bool.false_eq_true, false_and, if_false, Nat.add_zero]
theorem bit_step {T F K y : Nat} {b : Bk} (hK : K < 10000) (hy : y < 10000) : (lf T F b y && decide (ky y < K + 1)) = ((lf T F b y && decide (ky y < K)) || (lf T F b (uk K) && decide (y = uk K))) := by
  by_cases e : y = uk K
  · subst e
    rw [(uk_ky hK).2, decide_eq_true (Nat.lt_succ_self K), decide_eq_false (Nat.lt_irrefl K), decide_eq_true rfl]
    simp
  · have hne : ky y ≠ K := fun z => e (by rw [← z]; exact (ky_uk hy).2.symm)
    rw [decide_eq_false e, Bool.and_false, Bool.or_false]
    congr 1
    by_cases c : ky y < K
    · rw [decide_eq_true c, decide_eq_true (by omega)]
    · rw [decide_eq_false c, decide_eq_false (by omega)]
theorem TK_skip {T F K : Nat} {b : Bk} {S : Mem} (h : TK T F b K S) (hK : K < 10000) (hv : vd T (uk K) = false) : TK T F b (K + 1) S := by
  have hl := lf_vd (F := F) (b := b) hv
  obtain ⟨n1, n2, n3, n4⟩ := cK_no (T := T) (F := F) (b := b) hl
  have nf : foK T F b (K + 1) = foK T F b K := by
    unfold foK
    rw [fo, if_neg (by rw [hv]; decide)]
  obtain ⟨h1, h2, h3, h4, h5, h6, h7, h8⟩ := h
  refine ⟨h1, by rw [n1]; exact h2, by rw [nf]; exact h3, by rw [nf]; exact h4, fun y hy => ?_, fun i w hi hw => by rw [n2]; exact h6 i w hi hw, fun l hl => by rw [n3]; exact h7 l hl, fun k l hk hl => by rw [n4]; exact h8 k l hk hl⟩
  rw [h5 y hy, bit_step hK hy, hl, Bool.false_and, Bool.or_false]
theorem TK_skips {T F K : Nat} {b : Bk} {S : Mem} : ∀ n, TK T F b K S → K + n ≤ 10000 → (∀ j, K ≤ j → j < K + n → vd T (uk j) = false) → TK T F b (K + n) S := by
  intro n
  induction n with
  | zero => intro h _ _; exact h
  | succ n ih =>
    intro h hn hv
    have h2 : K + n < 10000 := by omega
    exact TK_skip (K := K + n) (ih h (by omega) (fun j h1 h2 => hv j h1 (by omega))) h2 (hv (K + n) (by omega) (by omega))
theorem one_bit : ∀ r, r < 32 → ∀ i, i < 32 → ((1 : Int32) <<< (nI r &&& 31)).toBitVec.getLsbD i = decide (i = r) := by decide +kernel
theorem cK_le {g : Nat → Nat} {K : Nat} (h : ∀ x, g x ≤ 1) (hK : K ≤ 10000) : cK g K ≤ 10000 := by
  have := fb_sm_bound (f := fun j => g (uk j)) (c := 1) (n := K) (fun k _ => h _)
  unfold cK
  omega
theorem gA_le {T F : Nat} {b : Bk} (x : Nat) : gA T F b x ≤ 1 := by unfold gA; split <;> decide
theorem X_meet {T F K N : Nat} {b : Bk} {S : Mem} (hG : GSt T F b) (h : TK T F b K S) (hK : K < 10000) (hv : vd T (uk K) = true) (hN : 12 < N) : ∃ S', f8_meet N (nI (uk K)) (nI (wco F b (uk K))) S = some ((), S') ∧ TK T F b (K + 1) S' ∧ ∀ q, q ∉ [39, 43, 45, 47, 49] → S' q = S q := by
  have hb := hG.2.2.2.1
  have hx := (uk_ky hK).1
  have hm := mis_lt (F := F) (x := uk K) hb
  have hz := lau_lt (F := F) (x := uk K) hb
  have hw := wco_lt (F := F) (b := b) (x := uk K)
  have hp := pop_le (mis F b (uk K))
  have e1 : nI (wco F b (uk K)) &&& (4095 : Int32) = nI (mis F b (uk K)) := by
    rw [← wco_lo hb]
    exact pk_andN (by omega) 12 (by decide)
  have e2 : ((nI (wco F b (uk K))).toUInt32 >>> ((12 : Int32).toUInt32 &&& Int32.toUInt32 31)).toInt32 = nI (lau F b (uk K)) := by
    rw [← wco_hi hb]
    exact pk_ushrN (by omega) 12 12 (by decide)
  have hfo : foK T F b (K + 1) = mst (foK T F b K) (mis F b (uk K)) := by
    unfold foK
    rw [fo, if_pos hv]
  have hfl := fo_le (p := fun j => vd T (uk j)) (f := fun j => mis F b (uk j)) K
  have hfl' : (foK T F b K).1 ≤ 13 := hfl
  -- the least first
  obtain ⟨S1, a1, a2, a3, a4, a5⟩ : ∃ S1, (∀ q, q ≠ 39 → S1 q = S q) ∧ (S1 39).1 9 = nI (foK T F b (K + 1)).1 ∧ (S1 39).1 10 = nI (foK T F b (K + 1)).2 ∧ (∀ j, j ≠ 9 → j ≠ 10 → (S1 39).1 j = (S 39).1 j) ∧ f8_meet N (nI (uk K)) (nI (wco F b (uk K))) S = f8_meet_b54 N (nI (uk K)) (nI (wco F b (uk K))) (nI (mis F b (uk K))) S1 := by
    obtain ⟨-, -, h3, h4, -⟩ := h
    unfold f8_meet
    rw [e1, lt_ok, f_bitCount hm, bnp_ok, h3, hfo]
    unfold mst
    by_cases c1 : pop (mis F b (uk K)) < (foK T F b K).1
    · refine ⟨wr (wr S 39 9 (nI (pop (mis F b (uk K))))) 39 10 (nI (mis F b (uk K))), fun q hq => by rw [wr_ne _ _ _ _ hq, wr_ne _ _ _ _ hq], ?_, ?_, fun j h9 h10 => by rw [wr_oth h10, wr_oth h9], ?_⟩
      · rw [if_pos c1, wr_oth (by decide), wr_val]
      · rw [if_pos c1, wr_val]
      · rw [if_neg (nI_ge c1 (by omega)), lt_ok, lt_ok]
    · rw [if_pos (nI_le (show (foK T F b K).1 ≤ pop (mis F b (uk K)) by omega) (by omega))]
      by_cases c2 : pop (mis F b (uk K)) = (foK T F b K).1
      · refine ⟨wr S 39 10 (nI ((foK T F b K).2 &&& mis F b (uk K))), fun q hq => by rw [wr_ne _ _ _ _ hq], ?_, ?_, fun j h9 h10 => by rw [wr_oth h10], ?_⟩
        · rw [if_neg c1, if_pos c2, wr_oth (by decide), h3]
        · rw [if_neg c1, if_pos c2, wr_val]
        · rw [if_pos (by rw [c2]), h4, fa_and, lt_ok]
      · refine ⟨S, fun q hq => rfl, ?_, ?_, fun j h9 h10 => rfl, ?_⟩
        · rw [if_neg c1, if_neg c2, h3]
        · rw [if_neg c1, if_neg c2, h4]
        · rw [if_neg (ne_nI (by omega) (by omega) c2)]
  rw [a5]
  unfold f8_meet_b54
  obtain ⟨h1, h2, -, -, h5, h6, h7, h8⟩ := h
  by_cases hl : mis F b (uk K) = 0
  · have hlf : lf T F b (uk K) = true := by
      unfold lf
      rw [hv, decide_eq_true hl]; rfl
    obtain ⟨S2, k1, k2, k3, k4, k5, k6, k7, k8⟩ := X_leave (x := uk K) (z := lau F b (uk K)) (N := N) (S := S1) hx hz hN
    refine ⟨S2, by rw [if_pos (show nI (mis F b (uk K)) = 0 by rw [hl]; rfl), e2, k1, bnd_ok], ⟨?_, ?_, ?_, ?_, fun y hy => ?_, fun i w hi hw => ?_, fun l hl2 => ?_, fun k l hk hl2 => ?_⟩, fun q hq => ?_⟩
    · rw [k3 7 (by decide), a4 7 (by decide) (by decide)]; exact h1
    · rw [k2, a4 8 (by decide) (by decide), h2, cK_succ]
      simp only [gA, hlf, if_true]
      exact nI_1 _
    · rw [k3 9 (by decide)]; exact a2
    · rw [k3 10 (by decide)]; exact a3
    · rw [k4, bit_step hK hy, hlf, Bool.true_and, a1 43 (by decide)]
      by_cases e : y / 32 = uk K / 32
      · rw [if_pos e, Int32.toBitVec_or, BitVec.getLsbD_or, h5 y hy, one_bit _ (Nat.mod_lt _ (by decide)) _ (Nat.mod_lt _ (by decide))]
        congr 1
        by_cases c : y % 32 = uk K % 32
        · rw [decide_eq_true c, decide_eq_true (by omega)]
        · rw [decide_eq_false c, decide_eq_false (fun z => c (by rw [z]))]
      · rw [if_neg e, h5 y hy, decide_eq_false (show ¬ y = uk K from fun z => e (by rw [z])), Bool.or_false]
    · rw [k5 i w hi hw, a1 45 (by decide), h6 i w hi hw, nI_add, cK_succ]
      simp only [gW, hlf, true_and]
    · rw [k6 l hl2, a1 47 (by decide), h7 l hl2, nI_add, cK_succ]
      simp only [gL, hlf, true_and]
    · rw [k7 k l hk hl2, a1 49 (by decide), h8 k l hk hl2, nI_add, cK_succ]
      simp only [gU, hlf, true_and]
    · rw [k8 q hq, a1 q (fun z => hq (by rw [z]; decide))]
  · have hlf : lf T F b (uk K) = false := by
      unfold lf
      rw [decide_eq_false hl, Bool.and_false]
    obtain ⟨n1, n2, n3, n4⟩ := cK_no (T := T) (F := F) (b := b) hlf
    refine ⟨S1, by rw [if_neg (show ¬ nI (mis F b (uk K)) = 0 from ne_nI (b := 0) (by omega) (by decide) hl)], ⟨?_, ?_, a2, a3, fun y hy => ?_, fun i w hi hw => ?_, fun l hl2 => ?_, fun k l hk hl2 => ?_⟩, fun q hq => a1 q (fun z => hq (by rw [z]; decide))⟩
    · rw [a4 7 (by decide) (by decide)]; exact h1
    · rw [a4 8 (by decide) (by decide), h2, n1]
    · rw [a1 43 (by decide), h5 y hy, bit_step hK hy, hlf, Bool.false_and, Bool.or_false]
    · rw [a1 45 (by decide), h6 i w hi hw, n2]
    · rw [a1 47 (by decide), h7 l hl2, n3]
    · rw [a1 49 (by decide), h8 k l hk hl2, n4]
