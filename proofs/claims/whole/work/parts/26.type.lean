theorem nI_wrap (n : Nat) : nI n = nI (n % 2 ^ 32) := by
  apply Int32.toBitVec_inj.mp
  apply BitVec.eq_of_toNat_eq
  simp [nI]
/-- byte k of v -/
def bv (v : Int64) (k : Nat) : Nat := v.toBitVec.toNat / 2 ^ (8 * k) % 256
theorem bv_lt (v : Int64) (k : Nat) : bv v k < 256 := Nat.mod_lt _ (by decide)
theorem bv_X (v : Int64) {k : Nat} (hk : k < 8) : (v.toUInt64 >>> (((8 : Int32) * nI k).toInt64.toUInt64 &&& Int64.toUInt64 63)).toInt64.toInt32 &&& (255 : Int32) = nI (bv v k) := by
  obtain ⟨n, hn, e⟩ := wb_of v
  have e8 : (8 : Int32) * nI k = nI (8 * k) := pk_mul 8 k
  rw [e8]
  unfold bv
  rw [e, wb_shr hn (by omega), lN_i, wb_tn hn, nI_wrap]
  rw [pk_andN (Nat.mod_lt _ (by decide)) 8 (by decide)]
  rw [Nat.mod_mod_of_dvd _ (show 2 ^ 8 ∣ 2 ^ 32 by decide)]
theorem bv_M (v : Int64) {k : Nat} (hk : k < 8) : vp_nar .byte ((v >>> (((8 : Int32) * nI k).toInt64 &&& 63)) &&& (255 : Int64)).toInt32.toInt8.toInt32 = (nI (bv v k)).toInt8.toInt32 := by
  rw [pk_vb]
  have e8 : (8 : Int32) * nI k = nI (8 * k) := pk_mul 8 k
  rw [e8, wb_c _ (by omega)]
  have e : (v >>> lN (8 * k)) &&& (255 : Int64) = lN (bv v k) := by
    apply wb_inj
    have h1 : (v >>> lN (8 * k)).toBitVec = v.toBitVec.sshiftRight (8 * k) := by
      rw [Int64.toBitVec_shiftRight, wb_tb, wb_sm _ (by omega)]
      show v.toBitVec.sshiftRight (BitVec.ofNat 64 (8 * k)).toNat = _
      rw [BitVec.toNat_ofNat, Nat.mod_eq_of_lt (by omega)]
    rw [Int64.toBitVec_and, h1, wb_tb]
    have h3 : v.toBitVec.sshiftRight (8 * k) &&& (255 : Int64).toBitVec = (v.toBitVec >>> (8 * k)) &&& 255#64 := by
      apply BitVec.eq_of_getLsbD_eq
      intro i hi
      rw [BitVec.getLsbD_and, BitVec.getLsbD_and]
      by_cases h8 : i < 8
      · rw [BitVec.getLsbD_sshiftRight, BitVec.getLsbD_ushiftRight, if_pos (by omega)]
        rw [decide_eq_false (by omega : ¬ 64 ≤ i)]
        simp
      · have hz : (255 : Int64).toBitVec.getLsbD i = false := by
          show (255#64).getLsbD i = false
          rw [show (255#64) = BitVec.ofNat 64 (2 ^ 8 - 1) from rfl, BitVec.getLsbD_ofNat]
          rw [Nat.testBit_two_pow_sub_one, decide_eq_false h8, Bool.and_false]
        have hz2 : (255#64).getLsbD i = false := hz
        rw [hz, hz2, Bool.and_false, Bool.and_false]
    rw [h3]
    apply BitVec.eq_of_toNat_eq
    rw [BitVec.toNat_and, BitVec.toNat_ushiftRight, BitVec.toNat_ofNat, BitVec.toNat_ofNat, Nat.shiftRight_eq_div_pow]
    rw [show 255 % 2 ^ 64 = 2 ^ 8 - 1 from rfl, Nat.and_two_pow_sub_one_eq_mod]
    unfold bv
    exact (Nat.mod_eq_of_lt (Nat.lt_of_lt_of_le (Nat.mod_lt _ (by decide)) (by decide))).symm
  rw [e, lN_i]
/-- the text with m bytes of v more -/
def addT (n : Nat) (B : Nat → Nat) (v : Int64) (m : Nat) : Nat → Nat := fun j => if j < n then B j else bv v (m - 1 - (j - n))
theorem XTx_cong {n : Nat} {B B' : Nat → Nat} {S : Mem} (h : XTx n B S) (e : ∀ j, j < n → B' j = B j) : XTx n B' S := ⟨h.1, fun j hj => by rw [e j hj]; exact h.2 j hj⟩
theorem MTx_cong {n : Nat} {B B' : Nat → Nat} {S : Mem} (h : MTx n B S) (e : ∀ j, j < n → B' j = B j) : MTx n B' S := ⟨h.1, fun j hj => by rw [e j hj]; exact h.2 j hj⟩
theorem f7_append_ok {n x : Nat} {B : Nat → Nat} {S : Mem} {N : Nat} (h : XTx n B S) (hn : n < 200) (hx : B n = x) : ∃ S', f7_append N (nI x) S = some ((), S') ∧ XTx (n + 1) B S' ∧ ∀ q, q ≠ 1 → q ≠ 3 → S' q = S q := by
  obtain ⟨h1, h2⟩ := h
  refine ⟨wr (wr S 3 n (nI x)) 1 1 (nI (n + 1)), ?_, ⟨?_, fun j hj => ?_⟩, fun q q1 q3 => ?_⟩
  · unfold f7_append
    have hle : ¬ (200 : Int32) ≤ nI n := nI_ge (b := 200) hn (by decide)
    simp (disch := omega) only [bnp_ok, bnd_ok, lt_ok, c0, c1, c2, c3, nI_clamp, nI_neg, nI_ltI, nI_leI, nI_eq, lt_t, lt_f, le_t, le_f, eq_t, eq_f, or_true, true_or, or_false, false_or, if_true, if_false, not_true, not_false_iff, z0, o0, o1, and_true, true_and, and_false, false_and, h1, if_neg hle, f5_put_in, wr_ap, nI_1]
  · simp (disch := omega) only [bnp_ok, bnd_ok, lt_ok, c0, c1, c2, c3, nI_clamp, nI_neg, nI_ltI, nI_leI, nI_eq, lt_t, lt_f, le_t, le_f, eq_t, eq_f, or_true, true_or, or_false, false_or, if_true, if_false, not_true, not_false_iff, z0, o0, o1, and_true, true_and, and_false, false_and, wr_ap, upd_ap]
  · by_cases e : j = n
    · subst e
      simp (disch := omega) only [bnp_ok, bnd_ok, lt_ok, c0, c1, c2, c3, nI_clamp, nI_neg, nI_ltI, nI_leI, nI_eq, lt_t, lt_f, le_t, le_f, eq_t, eq_f, or_true, true_or, or_false, false_or, if_true, if_false, not_true, not_false_iff, z0, o0, o1, and_true, true_and, and_false, false_and, wr_ap, upd_ap, hx]
    · have := h2 j (by omega)
      simp (disch := omega) only [bnp_ok, bnd_ok, lt_ok, c0, c1, c2, c3, nI_clamp, nI_neg, nI_ltI, nI_leI, nI_eq, lt_t, lt_f, le_t, le_f, eq_t, eq_f, or_true, true_or, or_false, false_or, if_true, if_false, not_true, not_false_iff, z0, o0, o1, and_true, true_and, and_false, false_and, wr_ap, upd_ap, e, this]
  · simp (disch := omega) only [bnp_ok, bnd_ok, lt_ok, c0, c1, c2, c3, nI_clamp, nI_neg, nI_ltI, nI_leI, nI_eq, lt_t, lt_f, le_t, le_f, eq_t, eq_f, or_true, true_or, or_false, false_or, if_true, if_false, not_true, not_false_iff, z0, o0, o1, and_true, true_and, and_false, false_and, wr_ap, q1, q3]
theorem X_type_loop {n m : Nat} {B : Nat → Nat} {S : Mem} {N : Nat} {v : Int64} (h : XTx n B S) (hm : m ≤ 8) (hn : n + m ≤ 200) (hN : 8 < N) : ∃ S', lp N (fun s : Int32 × Mem => f9_type_L36 N v s.1 s.2) (nI m - 1, S) = some S' ∧ XTx (n + m) (addT n B v m) S' ∧ ∀ q, q ≠ 1 → q ≠ 3 → S' q = S q := by
  refine lp_inv (f := fun s : Int32 × Mem => f9_type_L36 N v s.1 s.2) (fun i s => s.1 = nI (m - i) - 1 ∧ XTx (n + i) (addT n B v m) s.2 ∧ ∀ q, q ≠ 1 → q ≠ 3 → s.2 q = S q) (fun S' => XTx (n + m) (addT n B v m) S' ∧ ∀ q, q ≠ 1 → q ≠ 3 → S' q = S q) m ?_ ?_ (by omega) ⟨rfl, XTx_cong h (fun j hj => if_pos (show j < n from hj)), fun _ _ _ => rfl⟩
  · rintro i ⟨x, U⟩ hi ⟨hx, h1, h2⟩
    dsimp only at hx h1 h2 ⊢
    subst hx
    obtain ⟨k, hk⟩ : ∃ k, m - i = k + 1 := ⟨m - i - 1, by omega⟩
    have e1 : nI (m - i) - 1 = nI k := by rw [hk]; exact nI_pred k
    have e2 : nI k + -1 = nI (m - (i + 1)) - 1 := by
      rw [show m - (i + 1) = k by omega]
      exact (Int32.sub_eq_add_neg _ _).symm
    have eB : addT n B v m (n + i) = bv v k := by
      unfold addT
      rw [if_neg (by omega), show m - 1 - (n + i - n) = k by omega]
    obtain ⟨U', a1, a2, a3⟩ := f7_append_ok (N := N) h1 (by omega) eB
    refine ⟨(nI (m - (i + 1)) - 1, U'), ?_, rfl, a2, fun q q1 q3 => (a3 q q1 q3).trans (h2 q q1 q3)⟩
    unfold f9_type_L36
    rw [e1, if_neg (nI_pos (by omega)), bv_X v (by omega), a1, bnd_ok, lt_ok, e2]
  · rintro ⟨x, U⟩ ⟨hx, h1, h2⟩
    dsimp only at hx h1 h2 ⊢
    subst hx
    refine ⟨U, ?_, h1, h2⟩
    unfold f9_type_L36
    rw [Nat.sub_self, if_pos (by decide)]
theorem M_type_loop {n m : Nat} {B : Nat → Nat} {S : Mem} {N : Nat} {v : Int64} (h : MTx n B S) (hm : m ≤ 8) (hn : n + m ≤ 200) (hN : 8 < N) : ∃ S', lp N (fun s : Int32 × Mem => f10_type_L32 N v s.1 s.2) (nI m - 1, S) = some S' ∧ MTx (n + m) (addT n B v m) S' ∧ (S' 57).2 = (S 57).2 ∧ ∀ q, q ≠ 57 → q ≠ 58 → S' q = S q := by
  refine lp_inv (f := fun s : Int32 × Mem => f10_type_L32 N v s.1 s.2) (fun i s => s.1 = nI (m - i) - 1 ∧ MTx (n + i) (addT n B v m) s.2 ∧ (s.2 57).2 = (S 57).2 ∧ ∀ q, q ≠ 57 → q ≠ 58 → s.2 q = S q) (fun S' => MTx (n + m) (addT n B v m) S' ∧ (S' 57).2 = (S 57).2 ∧ ∀ q, q ≠ 57 → q ≠ 58 → S' q = S q) m ?_ ?_ (by omega) ⟨rfl, MTx_cong h (fun j hj => if_pos (show j < n from hj)), rfl, fun _ _ _ => rfl⟩
  · rintro i ⟨x, U⟩ hi ⟨hx, h1, h57, h2⟩
    dsimp only at hx h1 h2 h57 ⊢
    subst hx
    obtain ⟨k, hk⟩ : ∃ k, m - i = k + 1 := ⟨m - i - 1, by omega⟩
    have e1 : nI (m - i) - 1 = nI k := by rw [hk]; exact nI_pred k
    have e2 : nI k + -1 = nI (m - (i + 1)) - 1 := by
      rw [show m - (i + 1) = k by omega]
      exact (Int32.sub_eq_add_neg _ _).symm
    have eB : addT n B v m (n + i) = bv v k := by
      unfold addT
      rw [if_neg (by omega), show m - 1 - (n + i - n) = k by omega]
    have hin : ¬ (nI (n + i) < 0 ∨ 200 ≤ n + i) := by
      intro z
      rcases z with z | z
      · exact nI_pos (by omega) z
      · omega
    refine ⟨(nI (m - (i + 1)) - 1, wr (wr U 58 (n + i) (nI (bv v k)).toInt8.toInt32) 57 2 (nI (n + i + 1))), ?_, rfl, ⟨?_, fun j hj => ?_⟩, ?_, fun q q1 q3 => ?_⟩
    · unfold f10_type_L32
      rw [e1, if_neg (nI_pos (by omega)), bv_M v (by omega), h1.1]
      simp (disch := omega) only [bnp_ok, bnd_ok, lt_ok, c0, c1, c2, c3, nI_clamp, nI_neg, nI_ltI, nI_leI, nI_eq, lt_t, lt_f, le_t, le_f, eq_t, eq_f, or_true, true_or, or_false, false_or, if_true, if_false, not_true, not_false_iff, z0, o0, o1, and_true, true_and, and_false, false_and, wr_ap, h1.1, nI_1, e2]
    · simp (disch := omega) only [bnp_ok, bnd_ok, lt_ok, c0, c1, c2, c3, nI_clamp, nI_neg, nI_ltI, nI_leI, nI_eq, lt_t, lt_f, le_t, le_f, eq_t, eq_f, or_true, true_or, or_false, false_or, if_true, if_false, not_true, not_false_iff, z0, o0, o1, and_true, true_and, and_false, false_and, wr_ap, upd_ap, Nat.add_assoc]
    · by_cases e : j = n + i
      · subst e
        simp (disch := omega) only [bnp_ok, bnd_ok, lt_ok, c0, c1, c2, c3, nI_clamp, nI_neg, nI_ltI, nI_leI, nI_eq, lt_t, lt_f, le_t, le_f, eq_t, eq_f, or_true, true_or, or_false, false_or, if_true, if_false, not_true, not_false_iff, z0, o0, o1, and_true, true_and, and_false, false_and, wr_ap, upd_ap, eB]
      · have := h1.2 j (by omega)
        simp (disch := omega) only [bnp_ok, bnd_ok, lt_ok, c0, c1, c2, c3, nI_clamp, nI_neg, nI_ltI, nI_leI, nI_eq, lt_t, lt_f, le_t, le_f, eq_t, eq_f, or_true, true_or, or_false, false_or, if_true, if_false, not_true, not_false_iff, z0, o0, o1, and_true, true_and, and_false, false_and, wr_ap, upd_ap, e, this]
    · simp (disch := omega) only [bnp_ok, bnd_ok, lt_ok, c0, c1, c2, c3, nI_clamp, nI_neg, nI_ltI, nI_leI, nI_eq, lt_t, lt_f, le_t, le_f, eq_t, eq_f, or_true, true_or, or_false, false_or, if_true, if_false, not_true, not_false_iff, z0, o0, o1, and_true, true_and, and_false, false_and, wr_ap, h57]
    · simp (disch := omega) only [bnp_ok, bnd_ok, lt_ok, c0, c1, c2, c3, nI_clamp, nI_neg, nI_ltI, nI_leI, nI_eq, lt_t, lt_f, le_t, le_f, eq_t, eq_f, or_true, true_or, or_false, false_or, if_true, if_false, not_true, not_false_iff, z0, o0, o1, and_true, true_and, and_false, false_and, wr_ap, q1, q3, h2 q q1 q3]
  · rintro ⟨x, U⟩ ⟨hx, h1, h2⟩
    dsimp only at hx h1 h2 ⊢
    subst hx
    refine ⟨U, ?_, h1, h2⟩
    unfold f10_type_L32
    rw [Nat.sub_self, if_pos (by decide)]
theorem op_type {a : Ab} {S : Mem} {N : Nat} (hN : 8 < N) (hG : GA a) (hX : XA a S) (hM : MA a S) (v : Int64) (n : Int32) : ∃ r S1 S2 a', f9_type N v n S = some (r, S1) ∧ f10_type N v n S1 = some (r, S2) ∧ Nxt a a' S S2 := by
  have hn := hG.1.1
  have x1 := hX.1.1
  have m1 := hM.1.1
  unfold f9_type f10_type f7_length
  rcases btw_lit (i := n) (a := 1) (b := 8) (by decide) (by decide) with ⟨m, hm1, hm8, rfl, hb⟩ | ⟨hne, hb⟩
  · have h1 : ¬ nI m < (1 : Int32) := nI_nlt (a := m) (b := 1) hm1 (by omega)
    have h8 : nI m ≤ (8 : Int32) := nI_le (b := 8) hm8 (by decide)
    rw [← l1, ← l8] at hb
    by_cases hle : a.1.1 + m ≤ 200
    · have h200 : nI (a.1.1 + m) ≤ (200 : Int32) := nI_le (b := 200) hle (by decide)
      obtain ⟨S1, k1, k2, k3⟩ := X_type_loop (N := N) (v := v) hX.1 hm8 hle hN
      have hM1 : MA a S1 := MA_keep hM (fun q hq => k3 q (by omega) (by omega))
      obtain ⟨S2, j1, j2, j3, j4⟩ := M_type_loop (N := N) (v := v) hM1.1 hm8 hle hN
      refine ⟨nI (a.1.1 + m), S1, S2, ((a.1.1 + m, addT a.1.1 a.1.2 v m), a.2), ?_, ?_, ⟨⟨hle, fun j hj => ?_⟩, hG.2⟩, ?_, ?_, Or.inr ⟨rfl, rfl, fun q hq => ?_⟩⟩
      · unfold f9_type_b66 f7_length
        simp (disch := omega) only [bnp_ok, bnd_ok, lt_ok, c0, c1, c2, c3, nI_clamp, nI_neg, nI_ltI, nI_leI, nI_eq, lt_t, lt_f, le_t, le_f, eq_t, eq_f, or_true, true_or, or_false, false_or, if_true, if_false, not_true, not_false_iff, z0, o0, o1, and_true, true_and, and_false, false_and, if_neg h1, if_pos h8, x1, nI_add, if_pos h200, k1, k2.1]
      · unfold f10_type_b75
        have m1' : (S1 57).1 2 = nI a.1.1 := hM1.1.1
        simp (disch := omega) only [bnp_ok, bnd_ok, lt_ok, c0, c1, c2, c3, nI_clamp, nI_neg, nI_ltI, nI_leI, nI_eq, lt_t, lt_f, le_t, le_f, eq_t, eq_f, or_true, true_or, or_false, false_or, if_true, if_false, not_true, not_false_iff, z0, o0, o1, and_true, true_and, and_false, false_and, fM_btw, hb, m1', nI_add, if_pos h200, j1, j2.1]
      · show addT a.1.1 a.1.2 v m j < 256
        unfold addT
        split
        · rename_i h; exact hG.1.2 j h
        · exact bv_lt _ _
      · refine XA_tx hX (XTx_eq k2 (j4 1 (by decide) (by decide)) (j4 3 (by decide) (by decide))) (fun q hq q1 q3 => ?_)
        have hq2 : q < 57 := by revert q; decide
        rw [j4 q (by omega) (by omega), k3 q q1 q3]
      · refine MA_tx hM j2 (by rw [j3, k3 57 (by decide) (by decide)]) (fun q hq q58 => ?_)
        have hq2 : 57 < q := by revert q; decide
        rw [j4 q (by omega) q58, k3 q (by omega) (by omega)]
      · have hq2 : 30 < q ∧ q < 57 := by revert q; decide
        rw [j4 q (by omega) (by omega), k3 q (by omega) (by omega)]
    · have h200 : ¬ nI (a.1.1 + m) ≤ (200 : Int32) := nI_ge (a := 200) (by omega) (by omega)
      refine ⟨-3, S, S, a, ?_, ?_, Nxt_refl hG hX hM rfl⟩
      · simp (disch := omega) only [bnp_ok, bnd_ok, lt_ok, c0, c1, c2, c3, nI_clamp, nI_neg, nI_ltI, nI_leI, nI_eq, lt_t, lt_f, le_t, le_f, eq_t, eq_f, or_true, true_or, or_false, false_or, if_true, if_false, not_true, not_false_iff, z0, o0, o1, and_true, true_and, and_false, false_and, if_neg h1, if_pos h8, x1, nI_add, if_neg h200]
      · simp (disch := omega) only [bnp_ok, bnd_ok, lt_ok, c0, c1, c2, c3, nI_clamp, nI_neg, nI_ltI, nI_leI, nI_eq, lt_t, lt_f, le_t, le_f, eq_t, eq_f, or_true, true_or, or_false, false_or, if_true, if_false, not_true, not_false_iff, z0, o0, o1, and_true, true_and, and_false, false_and, fM_btw, hb, m1, nI_add, if_neg h200]
  · rw [← l1, ← l8] at hb
    refine ⟨-1, S, S, a, ?_, ?_, Nxt_refl hG hX hM rfl⟩
    · have hb2 := hb
      unfold btw at hb2
      by_cases h1 : n < 1
      · rw [if_pos h1]
      · rw [if_neg h1]
        by_cases h8 : (8 : Int32) < n
        · rw [if_neg (Int32.not_le.mpr h8)]
        · rw [if_neg h1, if_neg h8] at hb2
          exact absurd hb2 (by decide)
    · simp (disch := omega) only [bnp_ok, bnd_ok, lt_ok, c0, c1, c2, c3, nI_clamp, nI_neg, nI_ltI, nI_leI, nI_eq, lt_t, lt_f, le_t, le_f, eq_t, eq_f, or_true, true_or, or_false, false_or, if_true, if_false, not_true, not_false_iff, z0, o0, o1, and_true, true_and, and_false, false_and, fM_btw, hb]
