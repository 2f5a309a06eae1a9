theorem GIm_f (T F : Nat) (b : Bk) : GIm T F false b := by
  intro z
  cases z
theorem pst_f {B : Nat → Nat} {n : Nat} {σ : PS} {f : Nat} (hG : GP n σ) (h : pst B n σ = .inr (some f)) : f ≤ n := by
  have hp := hG.1
  have hp1 := tk_le (B := B) hp
  have hp2 := tk_le (B := B) hp1
  have s0 := (tS_le (B := B) hp).2
  have s1 := (tS_le (B := B) hp1).2
  have s2 := (tS_le (B := B) hp2).2
  unfold pst at h
  by_cases h0 : tK B n σ.1 = 0
  · rw [if_pos h0] at h; cases h
  · rw [if_neg h0] at h
    by_cases h1 : mayB (tK B n σ.1) σ = false
    · rw [if_pos h1] at h; cases h; exact s0
    · rw [if_neg h1] at h
      by_cases h2 : tK B n (tE B n σ.1) ≠ 5 ∨ mayT (tK B n σ.1) (tV B n (tE B n σ.1)) = false
      · rw [if_pos h2] at h; cases h; exact s1
      · rw [if_neg h2] at h
        by_cases h3 : tK B n (tE B n (tE B n σ.1)) ≠ 6
        · rw [if_pos h3] at h; cases h; exact s2
        · rw [if_neg h3] at h; cases h
theorem pst_e {B : Nat → Nat} {n : Nat} {σ : PS} (h : pst B n σ = .inr none) : tK B n σ.1 = 0 := by
  unfold pst at h
  by_cases h0 : tK B n σ.1 = 0
  · exact h0
  · rw [if_neg h0] at h
    by_cases h1 : mayB (tK B n σ.1) σ = false
    · rw [if_pos h1] at h; cases h
    · rw [if_neg h1] at h
      by_cases h2 : tK B n (tE B n σ.1) ≠ 5 ∨ mayT (tK B n σ.1) (tV B n (tE B n σ.1)) = false
      · rw [if_pos h2] at h; cases h
      · rw [if_neg h2] at h
        by_cases h3 : tK B n (tE B n (tE B n σ.1)) ≠ 6
        · rw [if_pos h3] at h; cases h
        · rw [if_neg h3] at h; cases h
theorem fin_f {B : Nat → Nat} {n : Nat} {f : Nat} : ∀ k σ, GP n σ → (fin B n k σ).1 = some f → f ≤ n := by
  intro k
  induction k with
  | zero => intro σ _ h; cases h
  | succ k ih =>
    intro σ hG h
    rw [fin] at h
    rcases hs : pst B n σ with τ | r0
    · simp only [hs] at h
      exact ih τ (pst_ok hG hs).1 h
    · simp only [hs] at h
      subst h
      exact pst_f hG hs
theorem M_loop {n : Nat} {B : Nat → Nat} {N : Nat} (hB : GTx n B) (hN : 200 < N) : ∀ k M σ S, MTx n B S → GP n σ → MP σ S → LK B n σ.1 S → (S 57).1 10 = -9 → 5 < k + cnt σ → k + 1 < M → ∃ c S', lp M (fun s : Int32 × Mem => f10_market_L45 N s.1 s.2) (nI (cnt σ), S) = some (c, S') ∧ FrM S S' ∧ (match (fin B n k σ).1 with | none => c = nI (cnt (fin B n k σ).2) ∧ (S' 57).1 10 = -9 ∧ MP (fin B n k σ).2 S' | some f => (S' 57).1 10 = nI f) := by
  intro k
  induction k with
  | zero => intro M σ S h hG _ _ _ hc; have := cnt_le hG; omega
  | succ k ih =>
    intro M σ S h hG hX hL hf hc hM
    obtain ⟨M, rfl⟩ : ∃ M', M = M' + 1 + 1 := ⟨M - 2, by omega⟩
    have hk3 := (mk_eq (tK B n σ.1) (tK_lt B n σ.1)).1.1
    by_cases h0 : tK B n σ.1 = 0
    · have hs : pst B n σ = .inr none := by unfold pst; rw [if_pos h0]
      rw [fin]
      simp only [hs]
      refine ⟨nI (cnt σ), S, lp_E ?_, FrM_refl S, rfl, hf, hX⟩
      unfold f10_market_L45
      rw [if_pos hf, hL.2.1, if_pos (hk3.mpr h0)]
    · obtain ⟨S', a1, a2, a3⟩ := M_item (N := N) h hB hG hX hL hf h0 hN
      have e : f10_market_L45 N (nI (cnt σ)) S = some (.inl (nI (cnt σ + 1), S')) := by
        unfold f10_market_L45
        rw [if_pos hf, hL.2.1, if_neg (fun z => h0 (hk3.mp z)), a1, bnd_ok, lt_ok, nI_1]
      rw [fin]
      unfold Mr at a2
      rcases hs : pst B n σ with τ | r0
      · simp only [hs] at a2 ⊢
        obtain ⟨b1, b2, b3⟩ := a2
        obtain ⟨g1, g2⟩ := pst_ok hG hs
        obtain ⟨c, S2, c1, c2, c3⟩ := ih (M + 1) τ S' (FrM_MTx h a3) g1 b2 b3 b1 (by omega) (by omega)
        rw [g2] at c1
        exact ⟨c, S2, by rw [lp_S (by exact e)]; exact c1, FrM_tr a3 c2, c3⟩
      · rcases r0 with _ | f
        · exact absurd (pst_e hs) h0
        · simp only [hs] at a2 ⊢
          have hfn := pst_f hG hs
          have hn := hB.1
          refine ⟨nI (cnt σ + 1), S', ?_, a3, a2⟩
          rw [lp_S (by exact e)]
          refine lp_E ?_
          dsimp only
          unfold f10_market_L45
          rw [a2, if_neg (ne_m9 (by omega))]
def σ0 : PS := (0, (0, fun _ => 0), (false, 0), (false, 10))
theorem σ0_G (n : Nat) : GP n σ0 := ⟨Nat.zero_le _, by decide, fun i hi => absurd hi (Nat.not_lt_zero i), by decide, by decide, by decide⟩
theorem X_read {n : Nat} {B : Nat → Nat} {S : Mem} {N : Nat} (h : XTx n B S) (hB : GTx n B) (hN : 200 < N) : ∃ r S', f4_read N S = some (r, S') ∧ FrX S S' ∧ (match (fin B n 6 σ0).1 with | none => r = -1 ∧ XP (fin B n 6 σ0).2 S' | some f => r = nI f) := by
  unfold f4_read f4_begin f6_reset_5
  rw [lt_ok, lt_ok, lt_ok, bnd_ok, lt_ok, lt_ok, lt_ok, lt_ok, bnd_ok]
  have hX : XP σ0 (wr (wr (wr (wr (wr (wr (wr S 5 2 0) 5 3 0) 5 4 10) 4 2 0) 4 3 0) 4 4 0) 4 6 0) := by
    refine ⟨?_, fun i hi => absurd hi (Nat.not_lt_zero i), ?_, ?_, ?_, ?_, ?_⟩
    · rw [wr_ne _ _ _ _ (by decide), wr_ne _ _ _ _ (by decide), wr_ne _ _ _ _ (by decide), wr_ne _ _ _ _ (by decide), wr_oth (by decide), wr_oth (by decide), wr_val]; rfl
    · rw [wr_ne _ _ _ _ (by decide), wr_ne _ _ _ _ (by decide), wr_ne _ _ _ _ (by decide), wr_ne _ _ _ _ (by decide), wr_oth (by decide), wr_val]; rfl
    · rw [wr_ne _ _ _ _ (by decide), wr_ne _ _ _ _ (by decide), wr_ne _ _ _ _ (by decide), wr_ne _ _ _ _ (by decide), wr_val]; rfl
    · rw [wr_oth (by decide), wr_oth (by decide), wr_val]; rfl
    · rw [wr_oth (by decide), wr_val]; rfl
    · rw [wr_oth (by decide), wr_oth (by decide), wr_oth (by decide), wr_val]; rfl
  have h6 : ((wr (wr (wr (wr (wr (wr (wr S 5 2 0) 5 3 0) 5 4 10) 4 2 0) 4 3 0) 4 4 0) 4 6 0) 4).1 6 = nI σ0.1 := wr_val _ _ _ _
  have hF : FrX S (wr (wr (wr (wr (wr (wr (wr S 5 2 0) 5 3 0) 5 4 10) 4 2 0) 4 3 0) 4 4 0) 4 6 0) := fun a x y z => by
    rw [wr_ne _ _ _ _ x, wr_ne _ _ _ _ x, wr_ne _ _ _ _ x, wr_ne _ _ _ _ x, wr_ne _ _ _ _ y, wr_ne _ _ _ _ y, wr_ne _ _ _ _ y]
  generalize wr (wr (wr (wr (wr (wr (wr S 5 2 0) 5 3 0) 5 4 10) 4 2 0) 4 3 0) 4 4 0) 4 6 0 = S1 at hX h6 hF ⊢
  obtain ⟨r, S2, a1, a2, a3⟩ := X_loop (N := N) hB hN 6 N σ0 S1 0 (FrX_XTx h hF) (σ0_G n) hX h6 (by decide) (by decide) (by omega)
  rw [show ((0 : Int32), S1) = (nI 0, S1) from rfl, a1, bnp_ok]
  exact ⟨r, S2, rfl, FrX_tr hF a2, a3⟩
theorem bnd_bnp {α β γ δ : Type} (x : Option (α × β)) (g : β → Option γ) (k : γ → Option δ) : bnd x (fun _ b => bnp (g b) k) = bnp (bnd x (fun _ b => g b)) k := by
  rcases x with _ | ⟨a, b⟩
  · rfl
  · rfl
theorem MA_frm {a : Ab} {S S' : Mem} (hG : GA a) (h : MA a S) (f : FrM S S') : MA a S' := by
  obtain ⟨h1, ⟨s1, s2, s3, s4⟩, h3, h4, h5, h6⟩ := h
  obtain ⟨f1, f2, f3, f4, f5, f6⟩ := f
  have hT := hG.2.1.1
  have e := fun a x y z w => f6 a x y z w
  have e62 := f6 62 (by decide) (by decide) (by decide) (by decide)
  have e63 := f6 63 (by decide) (by decide) (by decide) (by decide)
  have e64 := f6 64 (by decide) (by decide) (by decide) (by decide)
  exact ⟨MTx_eq h1 f1 (f6 58 (by decide) (by decide) (by decide) (by decide)), ⟨f3.trans s1, fun i hi => (f4 i (by omega)).trans (s2 i hi), (f4 3 (by decide)).trans s3, f5.trans s4⟩, MBk_eq h3 e62 e63, MIm_eq h4 e62 e63 e64, MIm_eq h5 e62 e63 e64, f2.trans h6⟩
theorem M_copyL {S : Mem} {N : Nat} (v : Int32) (hN : 4 < N) : ∃ S', lp N (fun s : Int32 × Mem => f10_market_L115 N v s.1 s.2) ((0 : Int32), S) = some S' ∧ (∀ q, q ≠ 60 → S' q = S q) ∧ ∀ j, j < 4 → (S' 60).1 j = (S 60).1 (4 + j) := by
  refine lp_inv (f := fun s : Int32 × Mem => f10_market_L115 N v s.1 s.2) (fun i s => s.1 = nI i ∧ (∀ q, q ≠ 60 → s.2 q = S q) ∧ ∀ j, (s.2 60).1 j = if j < i then (S 60).1 (4 + j) else (S 60).1 j) (fun S' => (∀ q, q ≠ 60 → S' q = S q) ∧ ∀ j, j < 4 → (S' 60).1 j = (S 60).1 (4 + j)) 4 ?_ ?_ (by omega) ⟨rfl, fun _ _ => rfl, fun j => by rw [if_neg (Nat.not_lt_zero j)]⟩
  · rintro i ⟨x, U⟩ hi ⟨hx, h1, h2⟩
    dsimp only at hx h1 h2 ⊢
    subst hx
    refine ⟨(nI (i + 1), wr U 60 i ((S 60).1 (4 + i))), ?_, rfl, fun q hq => ?_, fun j => ?_⟩
    · unfold f10_market_L115
      have e4 : (4 : Int32) + nI i = nI (4 + i) := nI_add 4 _
      have hc := h2 (4 + i)
      rw [if_neg (by omega)] at hc
      rw [if_neg (show ¬ (4 : Int32) ≤ nI i from nI_ge (b := 4) hi (by decide)), e4, if_neg (nI_in (by omega) (by decide)), lt_ok, if_neg (nI_in (by omega) (by decide)), lt_ok, lt_ok, nI_clamp (by omega), nI_clamp (by omega), hc, nI_1]
    · dsimp only
      rw [wr_ne _ _ _ _ hq]; exact h1 q hq
    · dsimp only
      by_cases e : j = i
      · rw [e, wr_val, if_pos (by omega)]
      · rw [wr_oth e, h2 j]
        by_cases h3 : j < i
        · rw [if_pos h3, if_pos (by omega)]
        · rw [if_neg h3, if_neg (by omega)]
  · rintro ⟨x, U⟩ ⟨hx, h1, h2⟩
    dsimp only at hx h1 h2 ⊢
    subst hx
    refine ⟨U, ?_, h1, fun j hj => ?_⟩
    · unfold f10_market_L115
      rw [if_pos (by decide)]
    · rw [h2 j, if_pos hj]
theorem op_market {a : Ab} {S : Mem} {N : Nat} (hN : 200 < N) (hG : GA a) (hX : XA a S) (hM : MA a S) : ∃ r S1 S2 a', f9_market N S = some (r, S1) ∧ f10_market N S1 = some (r, S2) ∧ Nxt a a' S S2 := by
  have hB := hG.1
  have hn := hB.1
  obtain ⟨r, S1, a1, a2, a3⟩ := X_read hX.1 hB hN
  have hGf := fin_G (B := a.1.2) 6 σ0 (σ0_G a.1.1)
  have hff := fun f => fin_f (B := a.1.2) (f := f) 6 σ0 (σ0_G a.1.1)
  -- the model's beginning, from any memory
  have mod : ∀ T : Mem, MA a T → ∃ c S2, (bnd (f10_nextToken N (wr (wr (wr (wr (wr (wr T 57 6 0) 57 10 (-9)) 57 11 0) 59 1 0) 60 7 0) 61 1 10)) (fun _ S8 => lp N (fun s : Int32 × Mem => f10_market_L45 N s.1 s.2) ((0 : Int32), S8)) = some (c, S2)) ∧ FrM T S2 ∧ (match (fin a.1.2 a.1.1 6 σ0).1 with | none => c = nI (cnt (fin a.1.2 a.1.1 6 σ0).2) ∧ (S2 57).1 10 = -9 ∧ MP (fin a.1.2 a.1.1 6 σ0).2 S2 | some f => (S2 57).1 10 = nI f) := by
    intro T hT
    have hX : MP σ0 (wr (wr (wr (wr (wr (wr T 57 6 0) 57 10 (-9)) 57 11 0) 59 1 0) 60 7 0) 61 1 10) := by
      refine ⟨?_, fun i hi => absurd hi (Nat.not_lt_zero i), ?_, ?_, 0, ?_, by decide, rfl, rfl⟩
      · rw [wr_ne _ _ _ _ (by decide), wr_ne _ _ _ _ (by decide), wr_val]; rfl
      · rw [wr_ne _ _ _ _ (by decide), wr_val]; rfl
      · rw [wr_val]; rfl
      · rw [wr_ne _ _ _ _ (by decide), wr_ne _ _ _ _ (by decide), wr_ne _ _ _ _ (by decide), wr_val]; rfl
    have h10 : ((wr (wr (wr (wr (wr (wr T 57 6 0) 57 10 (-9)) 57 11 0) 59 1 0) 60 7 0) 61 1 10) 57).1 10 = -9 := by
      rw [wr_ne _ _ _ _ (by decide), wr_ne _ _ _ _ (by decide), wr_ne _ _ _ _ (by decide), wr_oth (by decide), wr_val]
    have h6 : ((wr (wr (wr (wr (wr (wr T 57 6 0) 57 10 (-9)) 57 11 0) 59 1 0) 60 7 0) 61 1 10) 57).1 6 = nI σ0.1 := by
      rw [wr_ne _ _ _ _ (by decide), wr_ne _ _ _ _ (by decide), wr_ne _ _ _ _ (by decide), wr_oth (by decide), wr_oth (by decide), wr_val]; rfl
    have hF : FrM T (wr (wr (wr (wr (wr (wr T 57 6 0) 57 10 (-9)) 57 11 0) 59 1 0) 60 7 0) 61 1 10) := FrM_tr (FrM_57 _ _ _ (by decide)) (FrM_tr (FrM_57 _ _ _ (by decide)) (FrM_tr (FrM_57 _ _ _ (by decide)) (FrM_tr (FrM_59 _ _) (FrM_tr (FrM_60 _ _ _ (by decide)) (FrM_61 _ _)))))
    generalize wr (wr (wr (wr (wr (wr T 57 6 0) 57 10 (-9)) 57 11 0) 59 1 0) 60 7 0) 61 1 10 = T1 at hX h10 h6 hF ⊢
    obtain ⟨T2, b1, b2, b3⟩ := M_next (N := N) (FrM_MTx hT.1 hF) hB (Nat.zero_le _ : σ0.1 ≤ a.1.1) hN h6
    rw [b1, bnd_ok]
    obtain ⟨c, T3, c1, c2, c3⟩ := M_loop (N := N) hB hN 6 N σ0 T2 (Fr_MTx (FrM_MTx hT.1 hF) b3) (σ0_G _) (MP_57 hX (b3.1 11 (by decide) (by decide) (by decide) (by decide)) b3.2.2) b2 ((b3.1 10 (by decide) (by decide) (by decide) (by decide)).trans h10) (by decide) (by omega)
    exact ⟨c, T3, c1, FrM_tr hF (FrM_tr (FrM_fr b3) c2), c3⟩
  have um : ∀ T : Mem, f10_market N T = bnp (bnd (f10_nextToken N (wr (wr (wr (wr (wr (wr T 57 6 0) 57 10 (-9)) 57 11 0) 59 1 0) 60 7 0) 61 1 10)) (fun _ S8 => lp N (fun s : Int32 × Mem => f10_market_L45 N s.1 s.2) ((0 : Int32), S8))) (fun z12 => f10_market_b72 N z12.1 z12.2) := by
    intro T
    rw [← bnd_bnp]
    rfl
  have hF1 : ∀ q, 57 ≤ q → S1 q = S q := fun q hq => a2 q (by omega) (by omega) (by omega)
  have hX1 : XA a S1 := XA_eq hX (fun q hq => a2 q (by revert q; decide) (by revert q; decide) (by revert q; decide))
  rcases hf : (fin a.1.2 a.1.1 6 σ0).1 with _ | f
  · rw [hf] at a3
    simp only [hf] at mod
    obtain ⟨rfl, x1, x2, x3, x4, -, -, x7⟩ := a3
    generalize (fin a.1.2 a.1.1 6 σ0).2 = τ at *
    obtain ⟨g1, g2, g3, g4, g5, g6⟩ := hGf
    obtain ⟨S2, cp1, c2, c3⟩ := f5_copy_ok (N := N) (k := 11) (n := 3) (k2 := 6) (S := S1) (by decide) (by decide) (by omega)
    have c5 := c2 5 (by decide)
    have c4 := c2 4 (by decide)
    obtain ⟨SX, hSX⟩ : ∃ Z, Z = wr (wr (wr (wr (wr (wr (wr (wr S2 10 2 (nI τ.2.1.1)) 10 3 (nI τ.2.2.1.2)) 10 4 (nI τ.2.2.2.2)) 15 3 0) 22 1 0) 30 1 0) 1 1 0) 39 7 0 := ⟨_, rfl⟩
    have eX : f9_market N S = some (nI (cnt τ), SX) := by
      unfold f9_market f4_told f6_copyFrom_10_5 f0_wipe_15 f1_drop_22 f1_drop_30 f7_wipe f8_forget f4_items
      rw [a1, bnd_ok, if_pos (by decide), bnp_ok, cp1, bnd_ok, c5, x1, lt_ok, wr_ne _ _ _ _ (by decide), c5, x3, lt_ok, wr_ne _ _ _ _ (by decide), wr_ne _ _ _ _ (by decide), c5, x4, lt_ok, bnd_ok, lt_ok, bnd_ok, lt_ok, bnd_ok, lt_ok, bnd_ok, lt_ok, bnd_ok, lt_ok, bnd_ok, bnp_ok, ← hSX]
      have e4 : SX 4 = S1 4 := by
        rw [hSX, wr_ne _ _ _ _ (by decide), wr_ne _ _ _ _ (by decide), wr_ne _ _ _ _ (by decide), wr_ne _ _ _ _ (by decide), wr_ne _ _ _ _ (by decide), wr_ne _ _ _ _ (by decide), wr_ne _ _ _ _ (by decide), wr_ne _ _ _ _ (by decide), c4]
      rw [e4, x7]
    have oX : ∀ q, q ∉ [1, 10, 12, 15, 22, 30, 39] → SX q = S1 q := fun q hq => by
      simp only [List.mem_cons, List.not_mem_nil, or_false, not_or] at hq
      obtain ⟨q1, q10, q12, q15, q22, q30, q39⟩ := hq
      rw [hSX, wr_ne _ _ _ _ q39, wr_ne _ _ _ _ q1, wr_ne _ _ _ _ q30, wr_ne _ _ _ _ q22, wr_ne _ _ _ _ q15, wr_ne _ _ _ _ q10, wr_ne _ _ _ _ q10, wr_ne _ _ _ _ q10, c2 q q12]
    have oX57 : ∀ q, 57 ≤ q → SX q = S q := fun q hq => (oX q (by simp only [List.mem_cons, List.not_mem_nil, or_false, not_or]; omega)).trans (hF1 q hq)
    obtain ⟨c, S3, b1, b2, b3, b4, y1, y2, y3, y4, -⟩ := mod SX (MA_keep hM oX57)
    subst b3
    obtain ⟨S5, d1, d2, d3⟩ := M_copyL (N := N) (S := wr (wr S3 59 0 (nI τ.2.1.1)) 61 0 (nI τ.2.2.2.2)) (nI (cnt τ)) (by omega)
    obtain ⟨SY, hSY⟩ : ∃ Z, Z = wr (wr (wr (wr S5 62 0 0) 64 0 0) 64 1 0) 57 2 0 := ⟨_, rfl⟩
    have eY : f10_market N SX = some (nI (cnt τ), SY) := by
      rw [um, b1, bnp_ok]
      unfold f10_market_b72 f10_market_b140
      dsimp only
      rw [if_pos b4, if_neg (by decide), lt_ok, if_neg (by decide), lt_ok, if_neg (by decide), c1, c0, y1, wr_ne _ _ _ _ (by decide), y4, lt_ok, if_neg (by decide), lt_ok, d1, bnp_ok, if_neg (by decide), lt_ok, if_neg (by decide), lt_ok, if_neg (by decide), lt_ok, lt_ok, hSY]
      rfl
    refine ⟨nI (cnt τ), SX, SY, ((0, a.1.2), (τ.2.1.1, τ.2.1.2, τ.2.2.1.2, τ.2.2.2.2), (0, a.2.2.1.2), (false, a.2.2.2.1.2), (false, a.2.2.2.2.1.2), a.2.2.2.2.2), eX, eY, ?_, ?_, ?_, ?_⟩
    · exact ⟨⟨Nat.zero_le _, fun j hj => absurd hj (Nat.not_lt_zero j)⟩, ⟨g2, g3, g4, g5, g6⟩, ⟨Nat.zero_le _, fun j hj => absurd hj (Nat.not_lt_zero j)⟩, GIm_f _ _ _, GIm_f _ _ _⟩
    · have oY : ∀ q, q < 57 → SY q = SX q := fun q hq => by
        rw [hSY, wr_ne _ _ _ _ (by omega), wr_ne _ _ _ _ (by omega), wr_ne _ _ _ _ (by omega), wr_ne _ _ _ _ (by omega), d2 q (by omega), wr_ne _ _ _ _ (by omega), wr_ne _ _ _ _ (by omega), b2.2.2.2.2.2 q (by omega) (by omega) (by omega) (by omega)]
      refine XA_keep (S := SX) ⟨⟨?_, fun j hj => absurd hj (Nat.not_lt_zero j)⟩, ⟨?_, fun i hi => ?_, ?_, ?_⟩, ⟨?_, fun j hj => absurd hj (Nat.not_lt_zero j)⟩, ⟨?_, fun z => by cases z⟩, ⟨?_, fun z => by cases z⟩, ?_⟩ oY
      · rw [hSX, wr_ne _ _ _ _ (by decide), wr_val]; rfl
      · rw [hSX, wr_ne _ _ _ _ (by decide), wr_ne _ _ _ _ (by decide), wr_ne _ _ _ _ (by decide), wr_ne _ _ _ _ (by decide), wr_ne _ _ _ _ (by decide), wr_oth (by decide), wr_oth (by decide), wr_val]
      · have hi : i < τ.2.1.1 := hi
        rw [hSX, wr_ne _ _ _ _ (by decide), wr_ne _ _ _ _ (by decide), wr_ne _ _ _ _ (by decide), wr_ne _ _ _ _ (by decide), wr_ne _ _ _ _ (by decide), wr_ne _ _ _ _ (by decide), wr_ne _ _ _ _ (by decide), wr_ne _ _ _ _ (by decide)]
        exact (c3 i (by omega)).trans (x2 i hi)
      · rw [hSX, wr_ne _ _ _ _ (by decide), wr_ne _ _ _ _ (by decide), wr_ne _ _ _ _ (by decide), wr_ne _ _ _ _ (by decide), wr_ne _ _ _ _ (by decide), wr_oth (by decide), wr_val]
      · rw [hSX, wr_ne _ _ _ _ (by decide), wr_ne _ _ _ _ (by decide), wr_ne _ _ _ _ (by decide), wr_ne _ _ _ _ (by decide), wr_ne _ _ _ _ (by decide), wr_val]
      · rw [hSX, wr_ne _ _ _ _ (by decide), wr_ne _ _ _ _ (by decide), wr_ne _ _ _ _ (by decide), wr_ne _ _ _ _ (by decide), wr_val]; rfl
      · rw [hSX, wr_ne _ _ _ _ (by decide), wr_ne _ _ _ _ (by decide), wr_ne _ _ _ _ (by decide), wr_val]; rfl
      · rw [hSX, wr_ne _ _ _ _ (by decide), wr_ne _ _ _ _ (by decide), wr_val]; rfl
      · rw [oX 38 (by decide)]; exact hX1.2.2.2.2.2
    · refine ⟨⟨?_, fun j hj => absurd hj (Nat.not_lt_zero j)⟩, ⟨?_, fun i hi => ?_, ?_, ?_⟩, ⟨?_, fun j hj => absurd hj (Nat.not_lt_zero j)⟩, ⟨?_, fun z => by cases z⟩, ⟨?_, fun z => by cases z⟩, ?_⟩
      · rw [hSY, wr_val]; rfl
      · rw [hSY, wr_ne _ _ _ _ (by decide), wr_ne _ _ _ _ (by decide), wr_ne _ _ _ _ (by decide), wr_ne _ _ _ _ (by decide), d2 59 (by decide), wr_ne _ _ _ _ (by decide), wr_val]
      · have hi : i < τ.2.1.1 := hi
        rw [hSY, wr_ne _ _ _ _ (by decide), wr_ne _ _ _ _ (by decide), wr_ne _ _ _ _ (by decide), wr_ne _ _ _ _ (by decide), d3 i (by omega), wr_ne _ _ _ _ (by decide), wr_ne _ _ _ _ (by decide)]
        exact y2 i hi
      · rw [hSY, wr_ne _ _ _ _ (by decide), wr_ne _ _ _ _ (by decide), wr_ne _ _ _ _ (by decide), wr_ne _ _ _ _ (by decide), d3 3 (by decide), wr_ne _ _ _ _ (by decide), wr_ne _ _ _ _ (by decide)]
        exact y3
      · rw [hSY, wr_ne _ _ _ _ (by decide), wr_ne _ _ _ _ (by decide), wr_ne _ _ _ _ (by decide), wr_ne _ _ _ _ (by decide), d2 61 (by decide), wr_val]
      · rw [hSY, wr_ne _ _ _ _ (by decide), wr_ne _ _ _ _ (by decide), wr_ne _ _ _ _ (by decide), wr_val]; rfl
      · rw [hSY, wr_ne _ _ _ _ (by decide), wr_oth (by decide), wr_val]; rfl
      · rw [hSY, wr_ne _ _ _ _ (by decide), wr_val]; rfl
      · rw [hSY, wr_long, wr_ne _ _ _ _ (by decide), wr_ne _ _ _ _ (by decide), wr_ne _ _ _ _ (by decide), d2 57 (by decide), wr_ne _ _ _ _ (by decide), wr_ne _ _ _ _ (by decide), b2.2.1, oX57 57 (by decide)]
        exact hM.2.2.2.2.2
    · refine Or.inl ?_
      rw [hSY, wr_ne _ _ _ _ (by decide), wr_ne _ _ _ _ (by decide), wr_ne _ _ _ _ (by decide), wr_ne _ _ _ _ (by decide), d2 39 (by decide), wr_ne _ _ _ _ (by decide), wr_ne _ _ _ _ (by decide), b2.2.2.2.2.2 39 (by decide) (by decide) (by decide) (by decide), hSX, wr_val]
  · rw [hf] at a3
    simp only [hf] at mod
    subst a3
    have hfn := hff f hf
    obtain ⟨c, S2, b1, b2, b3⟩ := mod S1 (MA_keep hM hF1)
    refine ⟨-10 - nI f, S1, S2, a, ?_, ?_, hG, ?_, ?_, Or.inr ⟨rfl, rfl, fun q hq => ?_⟩⟩
    · unfold f9_market
      rw [a1, bnd_ok, if_neg (nI_pos (by omega))]
    · rw [um, b1, bnp_ok]
      unfold f10_market_b72
      dsimp only
      rw [b3, if_neg (ne_m9 (by omega))]
    · refine XA_keep hX1 (fun q hq => b2.2.2.2.2.2 q (by omega) (by omega) (by omega) (by omega))
    · exact MA_frm hG (MA_keep hM hF1) b2
    · have hq2 : q ≠ 4 ∧ q ≠ 5 ∧ q ≠ 7 ∧ q < 57 := by revert q; decide
      rw [b2.2.2.2.2.2 q (by omega) (by omega) (by omega) (by omega), a2 q hq2.1 hq2.2.1 hq2.2.2.1]
